/-! The class beside the model: a reader begins -/
section ZC29
variable {c : HP} {M : MD} {nT nR nA : Nat}
theorem beginsM_ne {r t b : Nat} (h : ¬ b = 24 ∧ ¬ b = 30 ∧ ¬ (36 ≤ b ∧ b ≤ 41)) (i : Nat) : (beginsM M r t nA).1 b i = M.1 b i := by
  unfold beginsM
  rw [setB_ne (by omega) (by omega), uI_1, if_neg (by omega), uI_1, if_neg (by omega), uI_1, if_neg (by omega), uI_1, if_neg (by omega), uI_1, if_neg (by omega), uI_1, if_neg (by omega)]
theorem beginsM_ek {f : Nat → Nat → Bool} {r t k : Nat} (h : ∀ b i, f b i = true → ¬ b = 24 ∧ ¬ b = 30 ∧ ¬ (36 ≤ b ∧ b ≤ 41) ∧ ¬ b = 43 ∧ ¬ b = 80) : EK f M (beginsM (uI (uI M 43 k (-1)) 80 k 0) r t nA) := fun b i q => by
  have := h b i q
  rw [beginsM_ne ⟨this.1, this.2.1, this.2.2.1⟩, uI_1, if_neg (by omega), uI_1, if_neg (by omega)]
theorem beginsM_2 {r t k : Nat} : (beginsM (uI (uI M 43 k (-1)) 80 k 0) r t nA).2 = M.2 := by
  unfold beginsM
  rw [setB_2]
  rfl
def bgC (c2 : HP) (M : MD) (k t r nA : Nat) : HP := wI (swF (dwC (wI (wI c2 5 5 t 2) 3 2 r 2) r) r t (oS M t nA) (gl M t nA).length) 0 3 k (-1)
def wBg : Nat → Nat → Nat → Prop := fun a i _ => (a = 5 ∧ 5 ≤ i) ∨ (a = 3 ∧ 2 ≤ i) ∨ (a = 0 ∧ i = 3) ∨ (a = 1 ∧ i = 7) ∨ (a = 6 ∧ 13 ≤ i ∧ i ≤ 15) ∨ a = 19 ∨ a = 2 ∨ (8 ≤ a ∧ a ≤ 15)
theorem dw_fr {w : Nat → Nat → Nat → Prop} {c c1 : HP} (h : FRI w c c1) (r : Nat) (g : ∀ i, 4 ≤ i → w 3 i r) : FRI w c (dwC c1 r) := by
  unfold dwC
  exact (((h.w _ (g _ (by omega))).w _ (g _ (by omega))).w _ (g _ (by omega))).w _ (g _ (by omega))
theorem dw_3 (c : HP) (r i j : Nat) : mI (dwC c r) 3 i j = if j = r ∧ 4 ≤ i ∧ i ≤ 7 then 0 else mI c 3 i j := by
  unfold dwC
  simp only [mI_wI, mJ_wI, mP_wI, mL_wI, mA_wI, mI_wJ, mJ_wJ, mP_wJ, mL_wJ, mA_wJ, uI_1, uI_2, uJ_1, uJ_2, Nat.reduceEqDiff, false_and, and_false, true_and, and_true, reduceIte]
  by_cases e : j = r
  · subst e
    by_cases z : 4 ≤ i ∧ i ≤ 7
    · have : i = 4 ∨ i = 5 ∨ i = 6 ∨ i = 7 := by omega
      rcases this with rfl | rfl | rfl | rfl <;> simp
    · rw [if_neg (by omega), if_neg (by omega), if_neg (by omega), if_neg (by omega), if_neg (by omega)]
  · rw [if_neg (by omega), if_neg (by omega), if_neg (by omega), if_neg (by omega), if_neg (by omega)]
theorem dw_ne (c : HP) (r : Nat) {a : Nat} (h : a ≠ 3) (i j : Nat) : mI (dwC c r) a i j = mI c a i j := by
  unfold dwC
  rw [mI_wI, if_neg (by omega), mI_wI, if_neg (by omega), mI_wI, if_neg (by omega), mI_wI, if_neg (by omega)]
theorem bg_fr {c2 : HP} {k t r : Nat} (hF : FRI wPl (wI c 5 6 t 0) c2) : FRI wBg c (bgC c2 M k t r nA) := by
  unfold bgC
  have h1 : FRI wBg c (wI c 5 6 t 0) := (FRI.rf _ _).w _ (by unfold wBg; omega)
  have h2 : FRI wBg c c2 := h1.tr (hF.mo (fun a b _ w => by unfold wBg; have := w.2; omega))
  have h3 := dw_fr ((h2.w (k := 5) (i := 5) (j := t) 2 (by unfold wBg; omega)).w (k := 3) (i := 2) (j := r) 2 (by unfold wBg; omega)) r (fun i hi => by unfold wBg; omega)
  exact (h3.tr ((sw_fr _).mo (fun a b _ w => by unfold wBg; unfold wSw at w; omega))).w _ (by unfold wBg; omega)
theorem CPT.begin_ (h : CPT c M nT nR nA) {k t r : Nat} (hk : k < 2) (ht : t < nT) (hT2 : nT ≤ 12) (hr : r < nR) (hR2 : nR ≤ 3) (h43 : M.1 43 k = nI t) (ho : ¬ M.1 43 (1 - k) = nI t) (h37 : M.1 37 r = nI t) {c2 : HP} (hF : FRI wPl (wI c 5 6 t 0) c2) (hP : PLN c2 M t nA) (h13 : mI c2 6 13 0 = nI t) : CPT (bgC c2 M k t r nA) (beginsM (uI (uI M 43 k (-1)) 80 k 0) r t nA) nT nR nA := by
  have hfr := bg_fr (M := M) (nA := nA) (k := k) (r := r) hF
  have hEK := fun {f} (hf : ∀ b i, f b i = true → ¬ b = 24 ∧ ¬ b = 30 ∧ ¬ (36 ≤ b ∧ b ≤ 41) ∧ ¬ b = 43 ∧ ¬ b = 80) => beginsM_ek (M := M) (nA := nA) (r := r) (t := t) (k := k) (f := f) hf
  have hb2 := beginsM_2 (M := M) (nA := nA) (r := r) (t := t) (k := k)
  have ag : AG M (uI (uI M 43 k (-1)) 80 k 0) := ((AG.rf M).w _ rfl).w _ rfl
  have eg := gl_ag ag t nA
  have eo : oS (uI (uI M 43 k (-1)) 80 k 0) t nA = oS M t nA := funext fun i => oS_ag ag t nA i
  obtain ⟨⟨a1, a2, a3, a4, a5, a6, a7, a8⟩, b1, b2, b3, b4⟩ := h
  obtain ⟨n, hn⟩ : ∃ n, n = (gl M t nA).length := ⟨_, rfl⟩
  obtain ⟨f, hf⟩ : ∃ f, f = oS M t nA := ⟨_, rfl⟩
  have hn8 : n ≤ 8 := by rw [hn]; exact gl_len M t nA
  have hos : ∀ i, i < n → f i < nA ∧ M.1 26 (f i) = nI t ∧ M.1 30 (f i) = 0 := fun i hi => by rw [hf]; rw [hn] at hi; exact oS_lt hi
  have hinj : ∀ i j, i < n → j < n → f i = f j → i = j := fun i j hi hj e => by
    rw [hf] at e
    rw [hn] at hi hj
    exact oS_inj hi hj e
  -- the two sides
  obtain ⟨M3, hM3⟩ : ∃ M3, M3 = uI (uI (uI (uI (uI (uI (uI (uI M 43 k (-1)) 80 k 0) 36 r 2) 37 r (nI t)) 24 t 2) 39 r (nI n)) 40 r 0) 41 r 0 := ⟨_, rfl⟩
  have hM : beginsM (uI (uI M 43 k (-1)) 80 k 0) r t nA = setB M3 f r n := by
    rw [hM3, hn, hf]
    unfold beginsM
    rw [eg, eo]
  obtain ⟨c3, hc3⟩ : ∃ c3, c3 = dwC (wI (wI c2 5 5 t 2) 3 2 r 2) r := ⟨_, rfl⟩
  have hC : bgC c2 M k t r nA = wI (swF c3 r t f n) 0 3 k (-1) := by
    rw [hc3, hn, hf]
    rfl
  have h1 : FRI (fun a i _ => (a = 5 ∧ (i = 5 ∨ i = 6)) ∨ (a = 3 ∧ 2 ≤ i) ∨ (a = 6 ∧ i = 13) ∨ a = 2 ∨ (8 ≤ a ∧ a ≤ 15)) c c3 := by
    rw [hc3]
    have h1 : FRI (fun a i _ => (a = 5 ∧ (i = 5 ∨ i = 6)) ∨ (a = 3 ∧ 2 ≤ i) ∨ (a = 6 ∧ i = 13) ∨ a = 2 ∨ (8 ≤ a ∧ a ≤ 15)) c (wI c 5 6 t 0) := (FRI.rf _ _).w _ (Or.inl ⟨rfl, Or.inr rfl⟩)
    have h2 := h1.tr (hF.mo (fun a b _ w => by have := w.2; omega))
    exact dw_fr ((h2.w (k := 5) (i := 5) (j := t) 2 (Or.inl ⟨rfl, Or.inl rfl⟩)).w (k := 3) (i := 2) (j := r) 2 (Or.inr (Or.inl ⟨rfl, by omega⟩))) r (fun i hi => Or.inr (Or.inl ⟨rfl, by omega⟩))
  have e3 : ∀ f : Nat → Nat → Bool, (∀ i, f 43 i = false ∧ f 80 i = false ∧ f 36 i = false ∧ f 37 i = false ∧ f 24 i = false ∧ f 39 i = false ∧ f 40 i = false ∧ f 41 i = false) → EK f M M3 := fun f q => by
    rw [hM3]
    exact ((((((((EK.rf f M).w _ (q _).1).w _ (q _).2.1).w _ (q _).2.2.1).w _ (q _).2.2.2.1).w _ (q _).2.2.2.2.1).w _ (q _).2.2.2.2.2.1).w _ (q _).2.2.2.2.2.2.1).w _ (q _).2.2.2.2.2.2.2
  have q1 : CA c3 M3 nA := a1.fr h1.q (fun i j z => by omega) (fun j => h1.J 1 9 j) (e3 kA (fun _ => ⟨rfl, rfl, rfl, rfl, rfl, rfl, rfl, rfl⟩)) (fun _ => by rw [hM3]; rfl)
  have q2 : CW c3 M3 nT nA := a3.fr h1.q (fun j => ⟨fun z => by omega, fun z => by omega, fun z => by omega, fun z => by omega⟩) (e3 kW (fun _ => ⟨rfl, rfl, rfl, rfl, rfl, rfl, rfl, rfl⟩))
  have m26 : ∀ i, M3.1 26 i = M.1 26 i := fun i => by rw [hM3]; rfl
  have m30 : ∀ i, M3.1 30 i = M.1 30 i := fun i => by rw [hM3]; rfl
  obtain ⟨s1, s2⟩ := sw_loop q1 q2 hT2 ht (r := r) n (fun i hi => by rw [m26, m30]; exact hos i hi) hinj
  have hw : FRI (fun a i _ => a = 0 ∧ i = 3) (swF c3 r t f n) (wI (swF c3 r t f n) 0 3 k (-1)) := (FRI.rf _ _).w _ ⟨rfl, rfl⟩
  rw [← hC] at hw
  have hsw := sw_fr (c := c3) (r := r) (t := t) (f := f) n
  have g5 : ∀ i s, i < 7 → mI (bgC c2 M k t r nA) 5 i s = if i = 5 ∧ s = t then 2 else if i = 6 ∧ s = t then 0 else mI c 5 i s := fun i s hi => by
    rw [hw.I (fun z => by omega), hsw.I (fun z => by unfold wSw at z; omega), hc3, dw_ne _ _ (by omega), mI_wI, if_neg (by omega), mI_wI, hF.I (fun z => by have := z.2; omega), mI_wI]
    simp only [true_and]
  have g3 : ∀ i j, mI (bgC c2 M k t r nA) 3 i j = if i = 5 ∧ j = r ∧ 0 < n then nI n else if j = r ∧ 4 ≤ i ∧ i ≤ 7 then 0 else if i = 2 ∧ j = r then 2 else mI c 3 i j := fun i j => by
    rw [hw.I (fun z => by omega), sw_3, hc3, dw_3, mI_wI, mI_wI, if_neg (by omega : ¬ (3 = 5 ∧ i = 5 ∧ j = t)), hF.I (fun z => by have := z.2; omega), mI_wI, if_neg (by omega : ¬ (3 = 5 ∧ i = 6 ∧ j = t))]
    simp only [true_and]
  have g19 : ∀ i j, mI (bgC c2 M k t r nA) 19 i j = if j = r ∧ i < n then nI (f i) else mI c 19 i j := fun i j => by
    rw [hw.I (fun z => by omega), sw_19, h1.I (fun z => by omega)]
  have n3 : ∀ b i, b ≠ 38 → b ≠ 30 → (setB M3 f r n).1 b i = M3.1 b i := fun b i x y => setB_ne x y i n
  refine ⟨⟨?_, ?_, ?_, ?_, ?_, ?_, ?_, ?_⟩, ?_, ?_, ?_, ?_⟩
  · rw [hM]
    exact s1.fr hw.q (fun i j z => by omega) (fun j => hw.J 1 9 j) (EK.rf _ _) (fun _ => rfl)
  · intro s hs
    obtain ⟨t1, t2, t3, t4, t5, t6⟩ := a2 s hs
    have hm : ¬ (-1 : Int32) = nI s := fun z => nI_m1 (by omega) z.symm
    rw [g5 0 s (by omega), g5 1 s (by omega), g5 2 s (by omega), g5 4 s (by omega), g5 5 s (by omega), g5 6 s (by omega), hM, n3 20 s (by omega) (by omega), n3 21 s (by omega) (by omega), n3 22 s (by omega) (by omega), n3 23 s (by omega) (by omega), n3 24 s (by omega) (by omega), n3 43 0 (by omega) (by omega), n3 43 1 (by omega) (by omega), hM3]
    have hk2 : k = 0 ∨ k = 1 := by omega
    rcases hk2 with rfl | rfl
    · simp only [mI_wI, mJ_wI, mP_wI, mL_wI, mA_wI, mI_wJ, mJ_wJ, mP_wJ, mL_wJ, mA_wJ, uI_1, uI_2, uJ_1, uJ_2, Nat.reduceEqDiff, false_and, and_false, true_and, and_true, reduceIte]
      refine ⟨t1, t2, t3, t4, by rw [t5], ?_⟩
      by_cases e : s = t
      · subst e
        rw [if_pos rfl]
        exact (bi_f (fun z => z.elim hm ho)).symm
      · rw [if_neg e, t6]
        exact bi_c ⟨fun z => z.elim (fun y => absurd (by rw [h43, nI_eq_iff] at y; exact y.symm) e) Or.inr, fun z => z.elim (fun y => absurd y hm) Or.inr⟩
    · simp only [mI_wI, mJ_wI, mP_wI, mL_wI, mA_wI, mI_wJ, mJ_wJ, mP_wJ, mL_wJ, mA_wJ, uI_1, uI_2, uJ_1, uJ_2, Nat.reduceEqDiff, false_and, and_false, true_and, and_true, reduceIte]
      refine ⟨t1, t2, t3, t4, by rw [t5], ?_⟩
      by_cases e : s = t
      · subst e
        rw [if_pos rfl]
        exact (bi_f (fun z => z.elim ho hm)).symm
      · rw [if_neg e, t6]
        exact bi_c ⟨fun z => z.elim Or.inl (fun y => absurd (by rw [h43, nI_eq_iff] at y; exact y.symm) e), fun z => z.elim Or.inl (fun y => absurd y hm)⟩
  · rw [hM]
    exact s2.fr hw.q (fun j => ⟨fun z => by omega, fun z => by omega, fun z => by omega, fun z => by omega⟩) (EK.rf _ _)
  · intro j hj
    obtain ⟨r1, r2, r3, r4, r5, y, r6, r7, r8, r9⟩ := a4 j hj
    rw [g3 0 j, g3 2 j, g3 3 j, g3 6 j, g3 7 j, g3 4 j, g3 5 j, hM, n3 35 j (by omega) (by omega), n3 36 j (by omega) (by omega), n3 37 j (by omega) (by omega), n3 40 j (by omega) (by omega), n3 41 j (by omega) (by omega)]
    by_cases e : j = r
    · subst e
      have ew : wkN (setB M3 f j n) j = n := by
        unfold wkN
        rw [n3 39 j (by omega) (by omega), hM3]
        simp only [mI_wI, mJ_wI, mP_wI, mL_wI, mA_wI, mI_wJ, mJ_wJ, mP_wJ, mL_wJ, mA_wJ, uI_1, uI_2, uJ_1, uJ_2, Nat.reduceEqDiff, false_and, and_false, true_and, and_true, reduceIte]
        exact ncl (N := 9) (by omega)
      rw [ew, hM3]
      simp only [mI_wI, mJ_wI, mP_wI, mL_wI, mA_wI, mI_wJ, mJ_wJ, mP_wJ, mL_wJ, mA_wJ, uI_1, uI_2, uJ_1, uJ_2, Nat.reduceEqDiff, false_and, and_false, true_and, and_true, reduceIte, Nat.reduceLeDiff]
      refine ⟨r1, by rw [r3, h37], fun _ => trivial, 0, rfl, ?_, by omega, fun i hi => ?_⟩
      · rw [Nat.zero_add]
        by_cases z : 0 < n
        · simp [z]
        · have : n = 0 := by omega
          simp [this]
          rfl
      · rw [Nat.zero_add, g19, if_pos ⟨rfl, hi⟩, ← hM3, setB_38, if_pos (by omega), show 8 * j + i - 8 * j = i by omega]
    · have ew : wkN (setB M3 f r n) j = wkN M j := by
        unfold wkN
        rw [n3 39 j (by omega) (by omega), hM3]
        simp only [mI_wI, mJ_wI, mP_wI, mL_wI, mA_wI, mI_wJ, mJ_wJ, mP_wJ, mL_wJ, mA_wJ, uI_1, uI_2, uJ_1, uJ_2, Nat.reduceEqDiff, false_and, and_false, true_and, and_true, reduceIte, e]
      rw [ew, hM3]
      simp only [mI_wI, mJ_wI, mP_wI, mL_wI, mA_wI, mI_wJ, mJ_wJ, mP_wJ, mL_wJ, mA_wJ, uI_1, uI_2, uJ_1, uJ_2, Nat.reduceEqDiff, false_and, and_false, true_and, and_true, reduceIte, e, Nat.reduceLeDiff]
      refine ⟨r1, r2, r3, r4, r5, y, r6, r7, r8, fun i hi => ?_⟩
      rw [g19, if_neg (fun z => e z.1), ← hM3, setB_38, if_neg (by omega), hM3]
      exact r9 i hi
  · obtain ⟨j0, j1, jj⟩ := a5
    have g0 : ∀ i j, mI (bgC c2 M k t r nA) 0 i j = if i = 3 ∧ j = k then -1 else mI c 0 i j := fun i j => by
      rw [hC, mI_wI, hsw.I (fun z => by unfold wSw at z; omega), h1.I (fun z => by omega)]
      simp only [true_and]
    refine ⟨by rw [g0]; exact j0, by rw [g0]; exact j1, fun j hj => ?_⟩
    obtain ⟨p1, p2, p3⟩ := jj j hj
    rw [g0 1, g0 3, g0 4, g0 5, g0 6, g0 7, g0 8, hM, n3 42 j (by omega) (by omega), n3 43 j (by omega) (by omega), n3 44 j (by omega) (by omega), n3 45 j (by omega) (by omega), n3 46 j (by omega) (by omega), n3 80 j (by omega) (by omega), n3 81 j (by omega) (by omega), hM3]
    simp only [mI_wI, mJ_wI, mP_wI, mL_wI, mA_wI, mI_wJ, mJ_wJ, mP_wJ, mL_wJ, mA_wJ, uI_1, uI_2, uJ_1, uJ_2, Nat.reduceEqDiff, false_and, and_false, true_and, and_true, reduceIte]
    refine ⟨p1, by rw [p2], fun q => ?_⟩
    by_cases e : j = k
    · rw [if_pos e] at q
      exact absurd rfl q
    · rw [if_neg e] at q
      rw [if_neg e]
      exact p3 q
  · exact (hfr.I (fun z => by unfold wBg at z; omega)).trans (a6.trans (hEK (f := kN) (fun b i q => by simp only [kN, Bool.and_eq_true, beq_iff_eq] at q; omega) 7 9 rfl).symm)
  · exact (hfr.I (fun z => by unfold wBg at z; omega)).trans (a7.trans (hEK (f := kN) (fun b i q => by simp only [kN, Bool.and_eq_true, beq_iff_eq] at q; omega) 7 10 rfl).symm)
  · exact (hfr.I (fun z => by unfold wBg at z; omega)).trans (a8.trans (hEK (f := kN) (fun b i q => by simp only [kN, Bool.and_eq_true, beq_iff_eq] at q; omega) 7 11 rfl).symm)
  · have e := hEK (f := fun b _ => b == 21 || b == 22) (fun b i q => by simp only [Bool.or_eq_true, beq_iff_eq] at q; omega)
    exact b1.fi hfr (fun s => e 21 s rfl) (fun s => e 22 s rfl) hb2
  · rw [hM]
    by_cases z : 0 < n
    · refine Or.inl ?_
      rw [hw.I (fun z => by omega), sw_13 z]
    · have hn0 : n = 0 := by omega
      refine Or.inr ⟨t, ht, ?_, ?_⟩
      · rw [hC, hn0, mI_wI, if_neg (by omega)]
        show mI c3 6 13 0 = _
        rw [hc3, dw_ne _ _ (by omega), mI_wI, if_neg (by omega), mI_wI, if_neg (by omega)]
        exact h13
      · rw [hC, hn0]
        show PLN (wI c3 0 3 k (-1)) M3 t nA
        have hF9 : FRI (fun a _ _ => a = 5 ∨ a = 3 ∨ a = 0) c2 (wI c3 0 3 k (-1)) := by
          rw [hc3]
          exact (dw_fr (((FRI.rf _ _).w _ (Or.inl rfl)).w _ (Or.inr (Or.inl rfl))) r (fun i hi => Or.inr (Or.inl rfl))).w _ (Or.inr (Or.inr rfl))
        exact hP.fr hF9 (fun a b _ z => by omega) (e3 kP (fun _ => ⟨rfl, rfl, rfl, rfl, rfl, rfl, rfl, rfl⟩)).ag
  · exact b3.fr hfr.q ⟨fun z => by unfold wBg at z; omega, fun z => by unfold wBg at z; omega⟩ (hEK (fun b i q => by simp only [kG, Bool.or_eq_true, beq_iff_eq] at q; omega))
  · exact b4.fr hfr.q (fun j z => by unfold wBg at z; omega) (hEK (f := kY) (fun b i q => by simp only [kY, Bool.and_eq_true, beq_iff_eq] at q; omega) 7 41 rfl)
end ZC29
