/-! The class: tick -/
def kTM (k i : Nat) : Bool := k == 29 || (k == 7 && i == 9)
section ZC33
variable {M M' : MD} {nT nR nA nw : Nat}
theorem TMI.fr (h : TMI M nA nw) (e : EK kTM M M') : TMI M' nA nw := by
  obtain ⟨h1, h2, h3, h4⟩ := h
  exact ⟨by rw [e 7 9 rfl]; exact h1, h2, fun k hk => by rw [e 29 k rfl]; exact h3 k hk, fun j k hjk hk => by rw [e 29 j rfl, e 29 k rfl]; exact h4 j k hjk hk⟩
theorem TMI.suc (h : TMI M nA nw) (hn : nw + 1 < 1000000) : TMI (uI M 7 9 (M.1 7 9 + 1)) nA (nw + 1) := by
  obtain ⟨h1, h2, h3, h4⟩ := h
  refine ⟨?_, hn, fun k hk => ?_, fun j k hjk hk => h4 j k hjk hk⟩
  · simp only [mI_wI, mJ_wI, mP_wI, mL_wI, mA_wI, mI_wJ, mJ_wJ, mP_wJ, mL_wJ, mA_wJ, uI_1, uI_2, uJ_1, uJ_2, Nat.reduceEqDiff, false_and, and_false, true_and, and_true, reduceIte]
    rw [h1, nI_1]
  · obtain ⟨a, a1, a2⟩ := h3 k hk
    exact ⟨a, by omega, a2⟩
theorem TMI.mono (h : TMI M nA nw) : ∀ j k, j ≤ k → k < nA → M.1 7 9 - M.1 29 k ≤ M.1 7 9 - M.1 29 j := fun j k hjk hk => by
  obtain ⟨h1, h2, h3, h4⟩ := h
  obtain ⟨a, a1, a2⟩ := h3 j (by omega)
  obtain ⟨b, b1, b2⟩ := h3 k hk
  have := h4 j k hjk hk
  rw [a2, b2, ncl (N := 1000000) (by omega), ncl (N := 1000000) (by omega)] at this
  rw [h1, a2, b2, pk_sub b1, pk_sub a1]
  exact nI_le (by omega) (by omega)
theorem GMI.gho (h : GMI M nT nR nA) (t : TMI M nA nw) : GHO M nT nR nA := ⟨h.2.1, h.1.2.2.2.1, h.1.2.2.2.2.1, h.1.2.2.2.2.2.1, ⟨nw, t.2.1, t.1⟩, t.mono, h.2.2.2.2.1⟩
/-! frames of the steps -/
theorem mvM_ek {f : Nat → Nat → Bool} {k : Nat} (h : ∀ b i, f b i = true → ¬ (b = 24 ∨ b = 30 ∨ (36 ≤ b ∧ b ≤ 43) ∨ b = 80 ∨ (b = 7 ∧ i = 41))) : EK f M (mvM M nA k) := by
  have hf : ∀ b i, (b = 24 ∨ b = 30 ∨ (36 ≤ b ∧ b ≤ 43) ∨ b = 80 ∨ (b = 7 ∧ i = 41)) → f b i = false := fun b i q => by
    cases z : f b i with
    | false => rfl
    | true => exact absurd q (h b i z)
  unfold mvM movesM
  split
  · exact EK.rf _ _
  · split
    · split
      · unfold takeM
        split
        · split
          · exact (((EK.rf _ _).w _ (hf _ _ (by omega))).w _ (hf _ _ (by omega))).w _ (hf _ _ (by omega))
          · exact ((((EK.rf _ _).w _ (hf _ _ (by omega))).w _ (hf _ _ (by omega))).w _ (hf _ _ (by omega))).w _ (hf _ _ (by omega))
        · exact ((EK.rf _ _).w _ (hf _ _ (by omega))).w _ (hf _ _ (by omega))
      · unfold putM
        split
        · exact (((EK.rf _ _).w _ (hf _ _ (by omega))).w _ (hf _ _ (by omega))).w _ (hf _ _ (by omega))
        · exact beginsM_ek (fun b i q => by have := h b i q; omega)
    · exact goM_ek (fun i => hf _ _ (by omega)) (hf _ _ (by omega))
theorem wkM_ek {f : Nat → Nat → Bool} {k : Nat} (h : ∀ b i, f b i = true → ¬ (b = 23 ∨ b = 30 ∨ b = 31 ∨ b = 36 ∨ (38 ≤ b ∧ b ≤ 41))) : EK f M (wkM M k) := by
  have hf : ∀ b i, (b = 23 ∨ b = 30 ∨ b = 31 ∨ b = 36 ∨ (38 ≤ b ∧ b ≤ 41)) → f b i = false := fun b i q => by
    cases z : f b i with
    | false => rfl
    | true => exact absurd q (h b i z)
  unfold wkM
  split
  · split
    · exact (EK.rf _ _).w _ (hf _ _ (by omega))
    · split
      · exact endM_ek (fun b i q => by have := h b i q; omega)
      · exact (EK.rf _ _).w _ (hf _ _ (by omega))
  · exact EK.rf _ _
theorem wksM_ek {f : Nat → Nat → Bool} (h : ∀ b i, f b i = true → ¬ (b = 23 ∨ b = 30 ∨ b = 31 ∨ b = 36 ∨ (38 ≤ b ∧ b ≤ 41))) : ∀ n, EK f M (wksM M n)
  | 0 => EK.rf _ _
  | n + 1 => (wksM_ek h n).tr (wkM_ek h)
theorem ajR_ek {f : Nat → Nat → Bool} {k : Nat} (h : ∀ b i, f b i = true → ¬ (b = 36 ∨ b = 37 ∨ (43 ≤ b ∧ b ≤ 46) ∨ b = 80 ∨ b = 81)) (q : ajR M k nR nA M') : EK f M M' := by
  have hf : ∀ b i, (b = 36 ∨ b = 37 ∨ (43 ≤ b ∧ b ≤ 46) ∨ b = 80 ∨ b = 81) → f b i = false := fun b i q => by
    cases z : f b i with
    | false => rfl
    | true => exact absurd q (h b i z)
  have hj : ∀ t fr to r br, EK f M (jobM M k t fr to r br) := fun t fr to r br => (((((((EK.rf _ _).w _ (hf _ _ (by omega))).w _ (hf _ _ (by omega))).w _ (hf _ _ (by omega))).w _ (hf _ _ (by omega))).w _ (hf _ _ (by omega))).w _ (hf _ _ (by omega)))
  rcases q with ⟨-, q⟩ | ⟨-, rfl⟩
  · rcases q with ⟨i, i1, i2, -, rfl⟩ | ⟨-, ⟨-, rfl⟩ | ⟨r, r1, r2, -, ch, h1, ⟨t, t1, rfl, t3, rfl⟩ | ⟨-, rfl⟩⟩⟩
    · exact hj _ _ _ _ _
    · exact EK.rf _ _
    · exact ((hj _ _ _ _ _).w _ (hf _ _ (by omega))).w _ (hf _ _ (by omega))
    · exact EK.rf _ _
  · exact EK.rf _ _
theorem T1_ek {f : Nat → Nat → Bool} {e : Int32} (h : ∀ b i, f b i = true → ¬ (b = 23 ∨ b = 24 ∨ b = 30 ∨ b = 31 ∨ (36 ≤ b ∧ b ≤ 46) ∨ b = 80 ∨ b = 81 ∨ (b = 7 ∧ (i = 41 ∨ i = 9)))) (q : T1 nR nA M e M') : EK f M M' := by
  obtain ⟨-, B, b1, C, c1, rfl⟩ := q
  have e1 : EK f M (mvM M nA 0) := mvM_ek (fun b i q => by have := h b i q; omega)
  have e2 : EK f (mvM M nA 0) (mvM (mvM M nA 0) nA 1) := mvM_ek (fun b i q => by have := h b i q; omega)
  have e3 : EK f _ _ := wksM_ek (M := mvM (mvM M nA 0) nA 1) (f := f) (fun b i q => by have := h b i q; omega) nR
  have e4 : EK f _ _ := ajR_ek (f := f) (fun b i q => by have := h b i q; omega) b1
  have e5 : EK f _ _ := ajR_ek (f := f) (fun b i q => by have := h b i q; omega) c1
  refine ((((e1.tr e2).tr e3).tr e4).tr e5).tr (fun b i q => ?_)
  rw [uI_1, if_neg (by have := h b i q; omega)]
theorem Tn_ek {f : Nat → Nat → Bool} (h : ∀ b i, f b i = true → ¬ (b = 23 ∨ b = 24 ∨ b = 30 ∨ b = 31 ∨ (36 ≤ b ∧ b ≤ 46) ∨ b = 80 ∨ b = 81 ∨ (b = 7 ∧ (i = 41 ∨ i = 9)))) : ∀ n e M', Tn nR nA M n e M' → EK f M M'
  | 0, _, _, q => by rw [q.2]; exact EK.rf _ _
  | n + 1, _, _, q => by
    obtain ⟨e1, e2, M1, q1, q2, -⟩ := q
    exact (Tn_ek h n _ _ q1).tr (T1_ek h q2)
theorem T1_tm {e : Int32} (t : TMI M nA nw) (hn : nw + 1 < 1000000) (q : T1 nR nA M e M') : TMI M' nA (nw + 1) := by
  obtain ⟨-, B, b1, C, c1, rfl⟩ := q
  have e1 : EK kTM M (mvM M nA 0) := mvM_ek (fun b i q => by simp only [kTM, Bool.or_eq_true, Bool.and_eq_true, beq_iff_eq] at q; omega)
  have e2 : EK kTM (mvM M nA 0) (mvM (mvM M nA 0) nA 1) := mvM_ek (fun b i q => by simp only [kTM, Bool.or_eq_true, Bool.and_eq_true, beq_iff_eq] at q; omega)
  have e3 : EK kTM _ _ := wksM_ek (M := mvM (mvM M nA 0) nA 1) (f := kTM) (fun b i q => by simp only [kTM, Bool.or_eq_true, Bool.and_eq_true, beq_iff_eq] at q; omega) nR
  have e4 : EK kTM _ _ := ajR_ek (f := kTM) (fun b i q => by simp only [kTM, Bool.or_eq_true, Bool.and_eq_true, beq_iff_eq] at q; omega) b1
  have e5 : EK kTM _ _ := ajR_ek (f := kTM) (fun b i q => by simp only [kTM, Bool.or_eq_true, Bool.and_eq_true, beq_iff_eq] at q; omega) c1
  exact (t.fr ((((e1.tr e2).tr e3).tr e4).tr e5)).suc hn
theorem Tn_tm (t : TMI M nA nw) : ∀ n e M', nw + n < 1000000 → Tn nR nA M n e M' → TMI M' nA (nw + n)
  | 0, _, _, _, q => by rw [q.2]; exact t
  | n + 1, _, _, hn, q => by
    obtain ⟨e1, e2, M1, q1, q2, -⟩ := q
    exact T1_tm (Tn_tm t n _ _ (by omega) q1) (by omega) q2
/-! an arm's new job, class beside model -/
variable {c : HP}
theorem CPT.back (h : CPT c M nT nR nA) (hT2 : nT ≤ 12) {k i : Nat} (hk : k < 2) (h43 : M.1 43 k = -1) (hi : i < nR) (gR : GR M nR nT) (hb : isBk M i) : CPT (cbC c k i (rtN M i)) (jobM M k (M.1 37 i) (M.1 35 i) (M.1 20 (rtN M i)) (nI i) 0) nT nR nA := by
  obtain ⟨ht, h37⟩ := GR_bk gR hi hb
  obtain ⟨r1, -, r3, -⟩ := h.1.2.2.2.1 i hi
  have t1 := (h.1.2.1 _ ht).1
  unfold cbC
  rw [r1, r3, t1, h37]
  have := h.job hk ht hT2 h43 (nI i) (M.1 35 i) (M.1 20 (rtN M i)) 1 0 rfl
  exact this
theorem CPT.bring (h : CPT c M nT nR nA) (hT2 : nT ≤ 12) {k i t : Nat} (hk : k < 2) (h43 : M.1 43 k = -1) (hi : i < nR) (ht : t < nT) : CPT (bcC c k i t) (brM M k t i) nT nR nA := by
  obtain ⟨r1, -⟩ := h.1.2.2.2.1 i hi
  have t1 := (h.1.2.1 _ ht).1
  unfold bcC brM
  rw [r1, t1]
  have := h.job hk ht hT2 h43 (nI i) (M.1 20 t) (M.1 35 i) 0 1 rfl
  exact (this.w32 i 1 (fun z => absurd z (by decide))).w33 i (nI t)
theorem sj_fr {w : Nat → Nat → Nat → Prop} {c1 : HP} (h : FRJ w c c1) {j : Nat} (t r fr to hw : Int32) (q : ∀ i, 1 ≤ i → w 0 i j) : FRJ w c (sjC c1 j t r fr to hw) := (((((h.w _ (q _ (by omega))).w _ (q _ (by omega))).w _ (q _ (by omega))).w _ (q _ (by omega))).w _ (q _ (by omega))).w _ (q _ (by omega))
theorem cb_fr (c : HP) (k i t : Nat) : FRJ wTk c (cbC c k i t) := sj_fr ((FRJ.rf wTk c).w _ (by unfold wTk; omega)) _ _ _ _ _ (fun i hi => by unfold wTk; omega)
theorem bc_fr (c : HP) (k i t : Nat) : FRJ wTk c (bcC c k i t) := ((sj_fr ((FRJ.rf wTk c).w (k := 5) (i := 6) (j := t) _ (by unfold wTk; omega)) _ _ _ _ _ (fun i hi => by unfold wTk; omega)).w _ (by unfold wTk; omega)).w _ (by unfold wTk; omega)
end ZC33
section ZC33b
variable {l : Launch} {D : DD} {d : Nat} {c : HP} {M N : MD} {Q : List Value → HP → Prop}
/-- step c of the class -/
theorem sp_findJob2 (hc : SKF c) {nT nR nA nw k : Nat} (hd : SKD c nT nR nA) (hT2 : nT ≤ 12) (hR2 : nR ≤ 3) (hA2 : nA ≤ 150) (hk : k < 2) (hC : CPT c M nT nR nA) (hG : GMI M nT nR nA) (hT : TMI M nA nw) (H : ∀ c' M', FRJ wTk c c' → ajR M k nR nA M' → CPT c' M' nT nR nA → Q [] (pm c' N)) : K_X6_findJob l D (d + 6) [.ref (ob 6 0), .ref (ob 0 k), .ref (ob 0 (1 - k))] (pm c N) Q := by
  refine sp_findJob hc hd hT2 hR2 hA2 hk hC.1 (hG.gho hT) (fun q => ?_) (fun q i i1 i2 i3 => ?_) (fun q n1 n2 => ?_) (fun q n1 i t i1 i2 i3 t1 ch hm => ?_) (fun q n1 i ch i1 i2 i3 h1 h2 => ?_)
  · exact H _ _ (FRJ.rf _ _) (Or.inr ⟨q, rfl⟩) hC
  · exact H _ _ (cb_fr _ _ _ _) (Or.inl ⟨q, Or.inl ⟨i, i1, i2, i3, rfl⟩⟩) (hC.back hT2 hk q i1 hG.2.2.2.2.1 i2.1)
  · exact H _ _ (FRJ.rf _ _) (Or.inl ⟨q, Or.inr ⟨n1, Or.inl ⟨n2, rfl⟩⟩⟩) hC
  · exact H _ _ (bc_fr _ _ _ _) (Or.inl ⟨q, Or.inr ⟨n1, Or.inr ⟨i, i1, i2, i3, nI t, ch, Or.inl ⟨t, by omega, rfl, hm, rfl⟩⟩⟩⟩) (hC.bring hT2 hk q i1 t1)
  · exact H _ _ (FRJ.rf _ _) (Or.inl ⟨q, Or.inr ⟨n1, Or.inr ⟨i, i1, i2, i3, ch, h1, Or.inr ⟨h2, rfl⟩⟩⟩⟩) hC
set_option maxHeartbeats 1000000 in
theorem sp_tick6 (hc : SKF c) {nT nR nA nw : Nat} (hd : SKD c nT nR nA) (hT2 : nT ≤ 12) (hR2 : nR ≤ 3) (hA2 : nA ≤ 150) (hC : CPT c M nT nR nA) (hG : GMI M nT nR nA) (hT : TMI M nA nw) (hnw : nw + 400 < 1000000) (x : Int32) (H : ∀ r c', ((∃ n M1, 1 ≤ n ∧ n ≤ 400 ∧ x = nI n ∧ Tn nR nA M n r M1 ∧ CPT c' M1 nT nR nA ∧ FRJ wTk c c') ∨ (¬ (1 ≤ x ∧ x ≤ 400) ∧ r = -1 ∧ c' = c)) → Q [.int r] (pm c' N)) : K_X6_tick l D (d + 7) [.ref (ob 6 0), .int x] (pm c N) Q := by
  refine m_X6_tick (lsA := [.ref (ob 6 0), .int x, jk, jk, jk]) rfl (Nat.le_of_ble_eq_true rfl) ?_
  intro X h0 h12 h14 h18 h50 h80 h120
  have hTI := GMI.ti hT2 hR2 hA2
  have k12 : ¬ (1 ≤ x ∧ x ≤ 400) → ∀ ls, X 12 ls [] (pm c N) 0 0 := by
    intro q ls
    apply h12
    simp only [B_X6_tick_12, o_ic, o_iret, cats_nil, cats_cons, rf_s, rf_n, isR_r, isR_n, isR_rf, cat_i, cat_l, cat_r, cat_n, cat_rf, unl_i, unl_l, unl_r, unl_n, unl_j, unl_rf, orf_r, orf_n, orf_rf, rf_null, mA_pm, mL_pm, mP_pm, List.length_cons, List.length_nil, List.cons_append, List.nil_append, Nat.reduceAdd, Nat.reduceLeDiff, Nat.reduceLT, Nat.reduceEqDiff, Nat.zero_add, Nat.add_zero, Nat.le_refl, Nat.zero_le, true_and, and_true, true_or, or_true, false_or, or_false, reduceIte]
    exact H _ _ (Or.inr ⟨q, rfl, rfl⟩)
  apply h0
  simp only [B_X6_tick_0, o_il, o_ic, o_ic2, nth_1, cats_nil, cats_cons, rf_s, rf_n, isR_r, isR_n, isR_rf, cat_i, cat_l, cat_r, cat_n, cat_rf, unl_i, unl_l, unl_r, unl_n, unl_j, unl_rf, orf_r, orf_n, orf_rf, rf_null, mA_pm, mL_pm, mP_pm, List.length_cons, List.length_nil, List.cons_append, List.nil_append, Nat.reduceAdd, Nat.reduceLeDiff, Nat.reduceLT, Nat.reduceEqDiff, Nat.zero_add, Nat.add_zero, Nat.le_refl, Nat.zero_le, true_and, and_true, true_or, or_true, false_or, or_false, reduceIte]
  refine ⟨fun q => k12 (fun z => absurd q (Int32.not_lt.mpr z.1)) _, fun q => ⟨fun q2 => ?_, fun q2 => k12 (fun z => q2 z.2) _⟩⟩
  have q' : 1 ≤ x ∧ x ≤ 400 := ⟨Int32.not_lt.mp q, q2⟩
  obtain ⟨n, hn, rfl⟩ : ∃ n, n < 401 ∧ x = nI n := in_nI (by omega) ⟨Int32.le_trans (by decide) q'.1, by rw [show nI 401 - 1 = 400 by decide]; exact q'.2⟩
  have hn1 : 1 ≤ n := by
    have := q'.1
    rw [show (1 : Int32) = nI 1 from rfl, nI_le_iff] at this
    exact this
  have works : ∀ m j e i A c1, j + m = 3 → GMI A nT nR nA → A.1 7 9 = nI (nw + i) → i ≤ 400 → FRJ wTk c c1 → CPT c1 (wksM A (min j nR)) nT nR nA → (∀ c2, FRJ wTk c c2 → CPT c2 (wksM A nR) nT nR nA → X 80 [.ref (ob 6 0), .int (nI n), .int (e + wksE A nR), .int (nI i), .int (nI 3)] [] (pm c2 N) 0 0) → X 50 [.ref (ob 6 0), .int (nI n), .int (e + wksE A (min j nR)), .int (nI i), .int (nI j)] [] (pm c1 N) 0 0 := by
    intro m
    induction m with
    | zero =>
      intro j e i A c1 hj hA hN hi hF hCc K
      obtain rfl : j = 3 := by omega
      have hc1 := hF.sk hc
      rw [show min 3 nR = nR by omega] at hCc ⊢
      apply h50
      simp only [B_X6_tick_50, o_il, o_al, o_gf, o_alen, o_ic2, o_aald, o_ii, o_is, o_inc, nth_4, nth_0, nth_2, lset_2, lset_4, opV_1, mV_6_1, al_6, hc.p6_1, kd_97, ix_97, hc.l97, hc.a6, ix_6, cats_nil, cats_cons, rf_s, rf_n, isR_r, isR_n, isR_rf, cat_i, cat_l, cat_r, cat_n, cat_rf, unl_i, unl_l, unl_r, unl_n, unl_j, unl_rf, orf_r, orf_n, orf_rf, rf_null, mA_pm, mL_pm, mP_pm, List.length_cons, List.length_nil, List.cons_append, List.nil_append, Nat.reduceAdd, Nat.reduceLeDiff, Nat.reduceLT, Nat.reduceEqDiff, Nat.zero_add, Nat.add_zero, Nat.le_refl, Nat.zero_le, true_and, and_true, true_or, or_true, false_or, or_false, reduceIte, hc1.a6, hc1.p6_1, hc1.l97, ofN]
      exact ⟨fun _ => K c1 hF hCc, fun z => absurd (by decide) z⟩
    | succ m ih =>
      intro j e i A c1 hj hA hN hi hF hCc K
      have hj3 : j < 3 := by omega
      have hc1 := hF.sk hc
      have hd1 := hF.skd hd
      have g97 := hd1.2.1 j hj3
      apply h50
      by_cases hjr : j < nR
      · have hGj := TI_ks hTI hA j (by omega)
        rw [show min j nR = j by omega] at hCc ⊢
        have hNj : (wksM A j).1 7 9 = nI (nw + i) := (wksM_ek (f := kTM) (fun b i q => by simp only [kTM, Bool.or_eq_true, Bool.and_eq_true, beq_iff_eq] at q; omega) j 7 9 rfl).trans hN
        simp only [B_X6_tick_50, o_il, o_al, o_gf, o_alen, o_ic2, o_aald, o_ii, o_is, o_inc, nth_4, nth_0, nth_2, lset_2, lset_4, opV_1, mV_6_1, al_6, hc.p6_1, kd_97, ix_97, hc.l97, hc.a6, ix_6, cats_nil, cats_cons, rf_s, rf_n, isR_r, isR_n, isR_rf, cat_i, cat_l, cat_r, cat_n, cat_rf, unl_i, unl_l, unl_r, unl_n, unl_j, unl_rf, orf_r, orf_n, orf_rf, rf_null, mA_pm, mL_pm, mP_pm, List.length_cons, List.length_nil, List.cons_append, List.nil_append, Nat.reduceAdd, Nat.reduceLeDiff, Nat.reduceLT, Nat.reduceEqDiff, Nat.zero_add, Nat.add_zero, Nat.le_refl, Nat.zero_le, true_and, and_true, true_or, or_true, false_or, or_false, reduceIte, hc1.a6, hc1.p6_1, hc1.l97, ofN, vin hj3, ncl hj3, g97, if_pos hjr, rnn, false_imp_iff, not_false_eq_true, true_imp_iff]
        refine ⟨fun z => absurd z (by rw [nI_le_iff]; omega), fun _ => ?_⟩
        refine sp_workIn hc1 hd1 hT2 hR2 hA2 hjr hCc hGj hNj (by omega) (fun c2 f2 p2 => ?_)
        simp only [o_il, o_al, o_gf, o_alen, o_ic2, o_aald, o_ii, o_is, o_inc, nth_4, nth_0, nth_2, lset_2, lset_4, opV_1, mV_6_1, al_6, hc.p6_1, kd_97, ix_97, hc.l97, hc.a6, ix_6, cats_nil, cats_cons, rf_s, rf_n, isR_r, isR_n, isR_rf, cat_i, cat_l, cat_r, cat_n, cat_rf, unl_i, unl_l, unl_r, unl_n, unl_j, unl_rf, orf_r, orf_n, orf_rf, rf_null, mA_pm, mL_pm, mP_pm, List.length_cons, List.length_nil, List.cons_append, List.nil_append, Nat.reduceAdd, Nat.reduceLeDiff, Nat.reduceLT, Nat.reduceEqDiff, Nat.zero_add, Nat.add_zero, Nat.le_refl, Nat.zero_le, true_and, and_true, true_or, or_true, false_or, or_false, reduceIte, nI_1]
        have := ih (j + 1) e i A c2 (by omega) hA hN hi (hF.tr f2) (by rw [show min (j + 1) nR = j + 1 by omega]; exact p2) K
        rw [show min (j + 1) nR = j + 1 by omega] at this
        rw [Int32.add_assoc]
        exact this
      · simp only [B_X6_tick_50, o_il, o_al, o_gf, o_alen, o_ic2, o_aald, o_ii, o_is, o_inc, nth_4, nth_0, nth_2, lset_2, lset_4, opV_1, mV_6_1, al_6, hc.p6_1, kd_97, ix_97, hc.l97, hc.a6, ix_6, cats_nil, cats_cons, rf_s, rf_n, isR_r, isR_n, isR_rf, cat_i, cat_l, cat_r, cat_n, cat_rf, unl_i, unl_l, unl_r, unl_n, unl_j, unl_rf, orf_r, orf_n, orf_rf, rf_null, mA_pm, mL_pm, mP_pm, List.length_cons, List.length_nil, List.cons_append, List.nil_append, Nat.reduceAdd, Nat.reduceLeDiff, Nat.reduceLT, Nat.reduceEqDiff, Nat.zero_add, Nat.add_zero, Nat.le_refl, Nat.zero_le, true_and, and_true, true_or, or_true, false_or, or_false, reduceIte, hc1.a6, hc1.p6_1, hc1.l97, ofN, vin hj3, ncl hj3, g97, if_neg hjr]
        refine ⟨fun z => absurd z (by rw [nI_le_iff]; omega), fun _ => ?_⟩
        refine sp_workIn_n _ ?_
        simp only [o_il, o_al, o_gf, o_alen, o_ic2, o_aald, o_ii, o_is, o_inc, nth_4, nth_0, nth_2, lset_2, lset_4, opV_1, mV_6_1, al_6, hc.p6_1, kd_97, ix_97, hc.l97, hc.a6, ix_6, cats_nil, cats_cons, rf_s, rf_n, isR_r, isR_n, isR_rf, cat_i, cat_l, cat_r, cat_n, cat_rf, unl_i, unl_l, unl_r, unl_n, unl_j, unl_rf, orf_r, orf_n, orf_rf, rf_null, mA_pm, mL_pm, mP_pm, List.length_cons, List.length_nil, List.cons_append, List.nil_append, Nat.reduceAdd, Nat.reduceLeDiff, Nat.reduceLT, Nat.reduceEqDiff, Nat.zero_add, Nat.add_zero, Nat.le_refl, Nat.zero_le, true_and, and_true, true_or, or_true, false_or, or_false, reduceIte, nI_1]
        have := ih (j + 1) e i A c1 (by omega) hA hN hi hF (by rw [show min (j + 1) nR = min j nR by omega]; exact hCc) K
        rw [show min (j + 1) nR = min j nR by omega] at this
        rw [Int32.add_zero]
        exact this
  have loop : ∀ m i e M1 c1 w4, i + m = n → Tn nR nA M i e M1 → CPT c1 M1 nT nR nA → FRJ wTk c c1 → X 18 [.ref (ob 6 0), .int (nI n), .int e, .int (nI i), w4] [] (pm c1 N) 0 0 := by
    intro m
    induction m with
    | zero =>
      intro i e M1 c1 w4 hi ht hC1 hF
      obtain rfl : i = n := by omega
      apply h18
      simp only [B_X6_tick_18, o_il, o_ic2, o_al, o_gf, o_ic, o_is, nth_3, nth_1, nth_0, lset_4, opV_2, mV_6_3, al_6, hc.p6_3, hc.a6, ix_6, mV_6_4, hc.p6_4, cats_nil, cats_cons, rf_s, rf_n, isR_r, isR_n, isR_rf, cat_i, cat_l, cat_r, cat_n, cat_rf, unl_i, unl_l, unl_r, unl_n, unl_j, unl_rf, orf_r, orf_n, orf_rf, rf_null, mA_pm, mL_pm, mP_pm, List.length_cons, List.length_nil, List.cons_append, List.nil_append, Nat.reduceAdd, Nat.reduceLeDiff, Nat.reduceLT, Nat.reduceEqDiff, Nat.zero_add, Nat.add_zero, Nat.le_refl, Nat.zero_le, true_and, and_true, true_or, or_true, false_or, or_false, reduceIte]
      refine ⟨fun _ => ?_, fun z => absurd (nI_le (by omega) (by omega)) z⟩
      apply h120
      simp only [B_X6_tick_120, o_il, o_iret, nth_2, cats_nil, cats_cons, rf_s, rf_n, isR_r, isR_n, isR_rf, cat_i, cat_l, cat_r, cat_n, cat_rf, unl_i, unl_l, unl_r, unl_n, unl_j, unl_rf, orf_r, orf_n, orf_rf, rf_null, mA_pm, mL_pm, mP_pm, List.length_cons, List.length_nil, List.cons_append, List.nil_append, Nat.reduceAdd, Nat.reduceLeDiff, Nat.reduceLT, Nat.reduceEqDiff, Nat.zero_add, Nat.add_zero, Nat.le_refl, Nat.zero_le, true_and, and_true, true_or, or_true, false_or, or_false, reduceIte]
      exact H e _ (Or.inl ⟨i, M1, hn1, by omega, rfl, ht, hC1, hF⟩)
    | succ m ih =>
      intro i e M1 c1 w4 hi ht hC1 hF
      have hG1 := TI_n hTI hG i e M1 ht
      have hT1 := Tn_tm hT i e M1 (by omega) ht
      have hc1 := hF.sk hc
      have hd1 := hF.skd hd
      apply h18
      simp only [B_X6_tick_18, o_il, o_ic2, o_al, o_gf, o_ic, o_is, nth_3, nth_1, nth_0, lset_4, opV_2, mV_6_3, al_6, hc.p6_3, hc.a6, ix_6, mV_6_4, hc.p6_4, cats_nil, cats_cons, rf_s, rf_n, isR_r, isR_n, isR_rf, cat_i, cat_l, cat_r, cat_n, cat_rf, unl_i, unl_l, unl_r, unl_n, unl_j, unl_rf, orf_r, orf_n, orf_rf, rf_null, mA_pm, mL_pm, mP_pm, List.length_cons, List.length_nil, List.cons_append, List.nil_append, Nat.reduceAdd, Nat.reduceLeDiff, Nat.reduceLT, Nat.reduceEqDiff, Nat.zero_add, Nat.add_zero, Nat.le_refl, Nat.zero_le, true_and, and_true, true_or, or_true, false_or, or_false, reduceIte, hc1.a6, hc1.p6_3, hc1.p6_4]
      refine ⟨fun z => absurd z (by rw [nI_le_iff]; omega), fun _ => ?_⟩
      refine sp_moveArm (k := 0) hc1 hd1 hT2 hR2 hA2 (by omega) hC1 hG1 (fun c2 f2 p2 => ?_)
      have hF2 := hF.tr f2
      have hc2 := hF2.sk hc
      have hd2 := hF2.skd hd
      have hG2 := hTI.2.1 _ 0 (by omega) hG1
      simp only [o_il, o_ic2, o_al, o_gf, o_ic, o_is, nth_3, nth_1, nth_0, lset_4, opV_2, mV_6_3, al_6, hc.p6_3, hc.a6, ix_6, mV_6_4, hc.p6_4, cats_nil, cats_cons, rf_s, rf_n, isR_r, isR_n, isR_rf, cat_i, cat_l, cat_r, cat_n, cat_rf, unl_i, unl_l, unl_r, unl_n, unl_j, unl_rf, orf_r, orf_n, orf_rf, rf_null, mA_pm, mL_pm, mP_pm, List.length_cons, List.length_nil, List.cons_append, List.nil_append, Nat.reduceAdd, Nat.reduceLeDiff, Nat.reduceLT, Nat.reduceEqDiff, Nat.zero_add, Nat.add_zero, Nat.le_refl, Nat.zero_le, true_and, and_true, true_or, or_true, false_or, or_false, reduceIte, hc2.a6, hc2.p6_3, hc2.p6_4]
      refine sp_moveArm (k := 1) hc2 hd2 hT2 hR2 hA2 (by omega) p2 hG2 (fun c3 f3 p3 => ?_)
      have hF3 := hF2.tr f3
      have hG3 := hTI.2.1 _ 1 (by omega) hG2
      simp only [o_il, o_ic2, o_al, o_gf, o_ic, o_is, nth_3, nth_1, nth_0, lset_4, opV_2, mV_6_3, al_6, hc.p6_3, hc.a6, ix_6, mV_6_4, hc.p6_4, cats_nil, cats_cons, rf_s, rf_n, isR_r, isR_n, isR_rf, cat_i, cat_l, cat_r, cat_n, cat_rf, unl_i, unl_l, unl_r, unl_n, unl_j, unl_rf, orf_r, orf_n, orf_rf, rf_null, mA_pm, mL_pm, mP_pm, List.length_cons, List.length_nil, List.cons_append, List.nil_append, Nat.reduceAdd, Nat.reduceLeDiff, Nat.reduceLT, Nat.reduceEqDiff, Nat.zero_add, Nat.add_zero, Nat.le_refl, Nat.zero_le, true_and, and_true, true_or, or_true, false_or, or_false, reduceIte]
      have hN3 : (mvM (mvM M1 nA 0) nA 1).1 7 9 = nI (nw + i) := by
        have e1 : EK kTM M1 (mvM M1 nA 0) := mvM_ek (fun b i q => by simp only [kTM, Bool.or_eq_true, Bool.and_eq_true, beq_iff_eq] at q; omega)
        have e2 : EK kTM (mvM M1 nA 0) (mvM (mvM M1 nA 0) nA 1) := mvM_ek (fun b i q => by simp only [kTM, Bool.or_eq_true, Bool.and_eq_true, beq_iff_eq] at q; omega)
        exact ((e1.tr e2) 7 9 rfl).trans hT1.1
      have w := works 3 0 e i _ c3 (by omega) hG3 hN3 (by omega) hF3 (by rw [show min 0 nR = 0 by omega]; exact p3) (fun c4 f4 p4 => ?_)
      · rw [show min 0 nR = 0 by omega, show e + wksE (mvM (mvM M1 nA 0) nA 1) 0 = e from Int32.add_zero e] at w
        exact w
      · have hc4 := f4.sk hc
        have hd4 := f4.skd hd
        have hG4 := TI_ks hTI hG3 nR (Nat.le_refl _)
        have hT4 : TMI (wksM (mvM (mvM M1 nA 0) nA 1) nR) nA (nw + i) := by
          have e1 : EK kTM M1 (mvM M1 nA 0) := mvM_ek (fun b i q => by simp only [kTM, Bool.or_eq_true, Bool.and_eq_true, beq_iff_eq] at q; omega)
          have e2 : EK kTM (mvM M1 nA 0) (mvM (mvM M1 nA 0) nA 1) := mvM_ek (fun b i q => by simp only [kTM, Bool.or_eq_true, Bool.and_eq_true, beq_iff_eq] at q; omega)
          exact hT1.fr ((e1.tr e2).tr (wksM_ek (fun b i q => by simp only [kTM, Bool.or_eq_true, Bool.and_eq_true, beq_iff_eq] at q; omega) nR))
        apply h80
        simp only [B_X6_tick_80, o_al, o_gf, o_dup, o_ic, o_ii, o_pI, o_inc, nth_0, nth_3, lset_3, opV_2, mV_6_3, al_6, hc.p6_3, hc.a6, ix_6, mV_6_4, hc.p6_4, mV_6_10, cI_6, cw_6, cats_nil, cats_cons, rf_s, rf_n, isR_r, isR_n, isR_rf, cat_i, cat_l, cat_r, cat_n, cat_rf, unl_i, unl_l, unl_r, unl_n, unl_j, unl_rf, orf_r, orf_n, orf_rf, rf_null, mA_pm, mL_pm, mP_pm, List.length_cons, List.length_nil, List.cons_append, List.nil_append, Nat.reduceAdd, Nat.reduceLeDiff, Nat.reduceLT, Nat.reduceEqDiff, Nat.zero_add, Nat.add_zero, Nat.le_refl, Nat.zero_le, true_and, and_true, true_or, or_true, false_or, or_false, reduceIte, hc4.a6, hc4.p6_3, hc4.p6_4]
        refine sp_findJob2 (k := 0) hc4 hd4 hT2 hR2 hA2 (by omega) p4 hG4 hT4 (fun c5 B f5 b5 p5 => ?_)
        have hF5 := f4.tr f5
        have hc5 := hF5.sk hc
        have hd5 := hF5.skd hd
        have hG5 := hTI.2.2.2.1 _ 0 B (by omega) hG4 b5
        have hT5 : TMI B nA (nw + i) := hT4.fr (ajR_ek (fun b i q => by simp only [kTM, Bool.or_eq_true, Bool.and_eq_true, beq_iff_eq] at q; omega) b5)
        simp only [o_al, o_gf, o_dup, o_ic, o_ii, o_pI, o_inc, nth_0, nth_3, lset_3, opV_2, mV_6_3, al_6, hc.p6_3, hc.a6, ix_6, mV_6_4, hc.p6_4, mV_6_10, cI_6, cw_6, cats_nil, cats_cons, rf_s, rf_n, isR_r, isR_n, isR_rf, cat_i, cat_l, cat_r, cat_n, cat_rf, unl_i, unl_l, unl_r, unl_n, unl_j, unl_rf, orf_r, orf_n, orf_rf, rf_null, mA_pm, mL_pm, mP_pm, List.length_cons, List.length_nil, List.cons_append, List.nil_append, Nat.reduceAdd, Nat.reduceLeDiff, Nat.reduceLT, Nat.reduceEqDiff, Nat.zero_add, Nat.add_zero, Nat.le_refl, Nat.zero_le, true_and, and_true, true_or, or_true, false_or, or_false, reduceIte, hc5.a6, hc5.p6_3, hc5.p6_4]
        refine sp_findJob2 (k := 1) hc5 hd5 hT2 hR2 hA2 (by omega) p5 hG5 hT5 (fun c6 C f6 b6 p6 => ?_)
        have hF6 := hF5.tr f6
        have hc6 := hF6.sk hc
        simp only [o_al, o_gf, o_dup, o_ic, o_ii, o_pI, o_inc, nth_0, nth_3, lset_3, opV_2, mV_6_3, al_6, hc.p6_3, hc.a6, ix_6, mV_6_4, hc.p6_4, mV_6_10, cI_6, cw_6, cats_nil, cats_cons, rf_s, rf_n, isR_r, isR_n, isR_rf, cat_i, cat_l, cat_r, cat_n, cat_rf, unl_i, unl_l, unl_r, unl_n, unl_j, unl_rf, orf_r, orf_n, orf_rf, rf_null, mA_pm, mL_pm, mP_pm, List.length_cons, List.length_nil, List.cons_append, List.nil_append, Nat.reduceAdd, Nat.reduceLeDiff, Nat.reduceLT, Nat.reduceEqDiff, Nat.zero_add, Nat.add_zero, Nat.le_refl, Nat.zero_le, true_and, and_true, true_or, or_true, false_or, or_false, reduceIte, hc6.a6, nI_1]
        refine ih (i + 1) _ _ _ _ (by omega) ⟨e, _, M1, ht, ⟨rfl, B, b5, C, b6, rfl⟩, rfl⟩ p6.now (hF6.w _ (by unfold wTk; omega))
  apply h14
  simp only [B_X6_tick_14, o_ic, o_is, lset_2, lset_3, cats_nil, cats_cons, rf_s, rf_n, isR_r, isR_n, isR_rf, cat_i, cat_l, cat_r, cat_n, cat_rf, unl_i, unl_l, unl_r, unl_n, unl_j, unl_rf, orf_r, orf_n, orf_rf, rf_null, mA_pm, mL_pm, mP_pm, List.length_cons, List.length_nil, List.cons_append, List.nil_append, Nat.reduceAdd, Nat.reduceLeDiff, Nat.reduceLT, Nat.reduceEqDiff, Nat.zero_add, Nat.add_zero, Nat.le_refl, Nat.zero_le, true_and, and_true, true_or, or_true, false_or, or_false, reduceIte]
  exact loop n 0 0 M c _ (by omega) ⟨rfl, rfl⟩ hC (FRJ.rf _ _)
end ZC33b
