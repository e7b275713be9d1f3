/-! The class beside the model: single steps -/
def kN (k i : Nat) : Bool := k == 7 && (i == 9 || i == 10 || i == 11)
def kU (k _ : Nat) : Bool := k == 21 || k == 22
def kY (k i : Nat) : Bool := k == 7 && i == 41
theorem bi_c {p q : Prop} [Decidable p] [Decidable q] (h : p ↔ q) : bi p = bi q := by
  by_cases z : p
  · rw [bi_t z, bi_t (h.mp z)]
  · rw [bi_f z, bi_f (fun y => z (h.mpr y))]
section ZC26
variable {c : HP} {M : MD} {nT nR nA : Nat}
theorem CPT.w55 (h : CPT c M nT nR nA) (t : Nat) (x : Int32) : CPT (wI c 5 5 t x) (uI M 24 t x) nT nR nA := by
  obtain ⟨⟨a1, a2, a3, a4, a5, a6, a7, a8⟩, b1, b2, b3, b4⟩ := h
  have hF : FRI (fun a b _ => a = 5 ∧ b = 5) c (wI c 5 5 t x) := (FRI.rf _ c).w _ ⟨rfl, rfl⟩
  refine ⟨⟨?_, ?_, ?_, ?_, ?_, ?_, ?_, ?_⟩, ?_, ?_, ?_, ?_⟩
  · exact a1.fr hF.q (fun i j z => by omega) (fun j => hF.J 1 9 j) ((EK.rf kA M).w x rfl) (fun _ => rfl)
  · intro s hs
    obtain ⟨t1, t2, t3, t4, t5, t6⟩ := a2 s hs
    simp only [mI_wI, mJ_wI, mP_wI, mL_wI, mA_wI, mI_wJ, mJ_wJ, mP_wJ, mL_wJ, mA_wJ, uI_1, uI_2, uJ_1, uJ_2, Nat.reduceEqDiff, false_and, and_false, true_and, and_true, reduceIte]
    exact ⟨t1, t2, t3, t4, by rw [t5], t6⟩
  · exact a3.fr hF.q (fun j => ⟨fun z => by omega, fun z => by omega, fun z => by omega, fun z => by omega⟩) ((EK.rf kW M).w x rfl)
  · exact a4.fr hF.q (fun i j z => by omega) (fun i j z => by omega) ((EK.rf kR M).w x rfl)
  · exact a5.fr hF.q (fun i j hi z => by omega) ((EK.rf kJ M).w x rfl)
  · exact (hF.I (fun z => by omega)).trans (a6.trans (((EK.rf kN M).w x rfl) 7 9 rfl).symm)
  · exact (hF.I (fun z => by omega)).trans (a7.trans (((EK.rf kN M).w x rfl) 7 10 rfl).symm)
  · exact (hF.I (fun z => by omega)).trans (a8.trans (((EK.rf kN M).w x rfl) 7 11 rfl).symm)
  · exact b1.fi hF (fun t => ((EK.rf kU M).w x rfl) 21 t rfl) (fun t => ((EK.rf kU M).w x rfl) 22 t rfl) rfl
  · exact b2.fr hF (fun k i j z => by omega) ((EK.rf kP M).w x rfl).ag
  · exact b3.fr hF.q ⟨fun z => by omega, fun z => by omega⟩ ((EK.rf kG M).w x rfl)
  · exact b4.fr hF.q (fun j z => by omega) (((EK.rf kY M).w x rfl) 7 41 rfl)
theorem CPT.w32 (h : CPT c M nT nR nA) (r : Nat) (x : Int32) (hx : x = 2 → mI c 3 7 r = M.1 41 r) : CPT (wI c 3 2 r x) (uI M 36 r x) nT nR nA := by
  obtain ⟨⟨a1, a2, a3, a4, a5, a6, a7, a8⟩, b1, b2, b3, b4⟩ := h
  have hF : FRI (fun a b _ => a = 3 ∧ b = 2) c (wI c 3 2 r x) := (FRI.rf _ c).w _ ⟨rfl, rfl⟩
  refine ⟨⟨?_, ?_, ?_, ?_, ?_, ?_, ?_, ?_⟩, ?_, ?_, ?_, ?_⟩
  · exact a1.fr hF.q (fun i j z => by omega) (fun j => hF.J 1 9 j) ((EK.rf kA M).w x rfl) (fun _ => rfl)
  · exact a2.fr hF.q (fun i j hi z => by omega) ((EK.rf kT M).w x rfl)
  · exact a3.fr hF.q (fun j => ⟨fun z => by omega, fun z => by omega, fun z => by omega, fun z => by omega⟩) ((EK.rf kW M).w x rfl)
  · intro j hj
    obtain ⟨r1, r2, r3, r4, r5, y, r6, r7, r8, r9⟩ := a4 j hj
    rw [show wkN (uI M 36 r x) j = wkN M j from rfl]
    simp only [mI_wI, mJ_wI, mP_wI, mL_wI, mA_wI, mI_wJ, mJ_wJ, mP_wJ, mL_wJ, mA_wJ, uI_1, uI_2, uJ_1, uJ_2, Nat.reduceEqDiff, false_and, and_false, true_and, and_true, reduceIte]
    refine ⟨r1, by rw [r2], r3, r4, fun q => ?_, y, r6, r7, r8, r9⟩
    by_cases e : j = r
    · subst e
      rw [if_pos rfl] at q
      exact hx q
    · rw [if_neg e] at q
      exact r5 q
  · exact a5.fr hF.q (fun i j hi z => by omega) ((EK.rf kJ M).w x rfl)
  · exact (hF.I (fun z => by omega)).trans (a6.trans (((EK.rf kN M).w x rfl) 7 9 rfl).symm)
  · exact (hF.I (fun z => by omega)).trans (a7.trans (((EK.rf kN M).w x rfl) 7 10 rfl).symm)
  · exact (hF.I (fun z => by omega)).trans (a8.trans (((EK.rf kN M).w x rfl) 7 11 rfl).symm)
  · exact b1.fi hF (fun t => ((EK.rf kU M).w x rfl) 21 t rfl) (fun t => ((EK.rf kU M).w x rfl) 22 t rfl) rfl
  · exact b2.fr hF (fun k i j z => by omega) ((EK.rf kP M).w x rfl).ag
  · exact b3.fr hF.q ⟨fun z => by omega, fun z => by omega⟩ ((EK.rf kG M).w x rfl)
  · exact b4.fr hF.q (fun j z => by omega) (((EK.rf kY M).w x rfl) 7 41 rfl)
theorem CPT.w33 (h : CPT c M nT nR nA) (r : Nat) (x : Int32) : CPT (wI c 3 3 r x) (uI M 37 r x) nT nR nA := by
  obtain ⟨⟨a1, a2, a3, a4, a5, a6, a7, a8⟩, b1, b2, b3, b4⟩ := h
  have hF : FRI (fun a b _ => a = 3 ∧ b = 3) c (wI c 3 3 r x) := (FRI.rf _ c).w _ ⟨rfl, rfl⟩
  refine ⟨⟨?_, ?_, ?_, ?_, ?_, ?_, ?_, ?_⟩, ?_, ?_, ?_, ?_⟩
  · exact a1.fr hF.q (fun i j z => by omega) (fun j => hF.J 1 9 j) ((EK.rf kA M).w x rfl) (fun _ => rfl)
  · exact a2.fr hF.q (fun i j hi z => by omega) ((EK.rf kT M).w x rfl)
  · exact a3.fr hF.q (fun j => ⟨fun z => by omega, fun z => by omega, fun z => by omega, fun z => by omega⟩) ((EK.rf kW M).w x rfl)
  · intro j hj
    obtain ⟨r1, r2, r3, r4, r5, y, r6, r7, r8, r9⟩ := a4 j hj
    rw [show wkN (uI M 37 r x) j = wkN M j from rfl]
    simp only [mI_wI, mJ_wI, mP_wI, mL_wI, mA_wI, mI_wJ, mJ_wJ, mP_wJ, mL_wJ, mA_wJ, uI_1, uI_2, uJ_1, uJ_2, Nat.reduceEqDiff, false_and, and_false, true_and, and_true, reduceIte]
    exact ⟨r1, r2, by rw [r3], r4, r5, y, r6, r7, r8, r9⟩
  · exact a5.fr hF.q (fun i j hi z => by omega) ((EK.rf kJ M).w x rfl)
  · exact (hF.I (fun z => by omega)).trans (a6.trans (((EK.rf kN M).w x rfl) 7 9 rfl).symm)
  · exact (hF.I (fun z => by omega)).trans (a7.trans (((EK.rf kN M).w x rfl) 7 10 rfl).symm)
  · exact (hF.I (fun z => by omega)).trans (a8.trans (((EK.rf kN M).w x rfl) 7 11 rfl).symm)
  · exact b1.fi hF (fun t => ((EK.rf kU M).w x rfl) 21 t rfl) (fun t => ((EK.rf kU M).w x rfl) 22 t rfl) rfl
  · exact b2.fr hF (fun k i j z => by omega) ((EK.rf kP M).w x rfl).ag
  · exact b3.fr hF.q ⟨fun z => by omega, fun z => by omega⟩ ((EK.rf kG M).w x rfl)
  · exact b4.fr hF.q (fun j z => by omega) (((EK.rf kY M).w x rfl) 7 41 rfl)
theorem CPT.w36 (h : CPT c M nT nR nA) (r : Nat) (x : Int32) : CPT (wI c 3 6 r x) (uI M 40 r x) nT nR nA := by
  obtain ⟨⟨a1, a2, a3, a4, a5, a6, a7, a8⟩, b1, b2, b3, b4⟩ := h
  have hF : FRI (fun a b _ => a = 3 ∧ b = 6) c (wI c 3 6 r x) := (FRI.rf _ c).w _ ⟨rfl, rfl⟩
  refine ⟨⟨?_, ?_, ?_, ?_, ?_, ?_, ?_, ?_⟩, ?_, ?_, ?_, ?_⟩
  · exact a1.fr hF.q (fun i j z => by omega) (fun j => hF.J 1 9 j) ((EK.rf kA M).w x rfl) (fun _ => rfl)
  · exact a2.fr hF.q (fun i j hi z => by omega) ((EK.rf kT M).w x rfl)
  · exact a3.fr hF.q (fun j => ⟨fun z => by omega, fun z => by omega, fun z => by omega, fun z => by omega⟩) ((EK.rf kW M).w x rfl)
  · intro j hj
    obtain ⟨r1, r2, r3, r4, r5, y, r6, r7, r8, r9⟩ := a4 j hj
    rw [show wkN (uI M 40 r x) j = wkN M j from rfl]
    simp only [mI_wI, mJ_wI, mP_wI, mL_wI, mA_wI, mI_wJ, mJ_wJ, mP_wJ, mL_wJ, mA_wJ, uI_1, uI_2, uJ_1, uJ_2, Nat.reduceEqDiff, false_and, and_false, true_and, and_true, reduceIte]
    exact ⟨r1, r2, r3, by rw [r4], r5, y, r6, r7, r8, r9⟩
  · exact a5.fr hF.q (fun i j hi z => by omega) ((EK.rf kJ M).w x rfl)
  · exact (hF.I (fun z => by omega)).trans (a6.trans (((EK.rf kN M).w x rfl) 7 9 rfl).symm)
  · exact (hF.I (fun z => by omega)).trans (a7.trans (((EK.rf kN M).w x rfl) 7 10 rfl).symm)
  · exact (hF.I (fun z => by omega)).trans (a8.trans (((EK.rf kN M).w x rfl) 7 11 rfl).symm)
  · exact b1.fi hF (fun t => ((EK.rf kU M).w x rfl) 21 t rfl) (fun t => ((EK.rf kU M).w x rfl) 22 t rfl) rfl
  · exact b2.fr hF (fun k i j z => by omega) ((EK.rf kP M).w x rfl).ag
  · exact b3.fr hF.q ⟨fun z => by omega, fun z => by omega⟩ ((EK.rf kG M).w x rfl)
  · exact b4.fr hF.q (fun j z => by omega) (((EK.rf kY M).w x rfl) 7 41 rfl)
theorem CPT.w08 (h : CPT c M nT nR nA) (k : Nat) (x : Int32) (hx : x = 0 ∨ x = 1) : CPT (wI c 0 8 k x) (uI M 80 k x) nT nR nA := by
  obtain ⟨⟨a1, a2, a3, a4, a5, a6, a7, a8⟩, b1, b2, b3, b4⟩ := h
  have hF : FRI (fun a b _ => a = 0 ∧ b = 8) c (wI c 0 8 k x) := (FRI.rf _ c).w _ ⟨rfl, rfl⟩
  refine ⟨⟨?_, ?_, ?_, ?_, ?_, ?_, ?_, ?_⟩, ?_, ?_, ?_, ?_⟩
  · exact a1.fr hF.q (fun i j z => by omega) (fun j => hF.J 1 9 j) ((EK.rf kA M).w x rfl) (fun _ => rfl)
  · exact a2.fr hF.q (fun i j hi z => by omega) ((EK.rf kT M).w x rfl)
  · exact a3.fr hF.q (fun j => ⟨fun z => by omega, fun z => by omega, fun z => by omega, fun z => by omega⟩) ((EK.rf kW M).w x rfl)
  · exact a4.fr hF.q (fun i j z => by omega) (fun i j z => by omega) ((EK.rf kR M).w x rfl)
  · obtain ⟨j0, j1, jj⟩ := a5
    refine ⟨j0, j1, fun j hj => ?_⟩
    obtain ⟨p1, p2, p3⟩ := jj j hj
    simp only [mI_wI, mJ_wI, mP_wI, mL_wI, mA_wI, mI_wJ, mJ_wJ, mP_wJ, mL_wJ, mA_wJ, uI_1, uI_2, uJ_1, uJ_2, Nat.reduceEqDiff, false_and, and_false, true_and, and_true, reduceIte]
    refine ⟨p1, p2, fun q => ?_⟩
    obtain ⟨q1, q2, q3, q4, q5⟩ := p3 q
    refine ⟨q1, q2, q3, q4, ?_⟩
    by_cases e : j = k
    · rw [if_pos e, if_pos e]
      rcases hx with rfl | rfl <;> rfl
    · rw [if_neg e, if_neg e]
      exact q5
  · exact (hF.I (fun z => by omega)).trans (a6.trans (((EK.rf kN M).w x rfl) 7 9 rfl).symm)
  · exact (hF.I (fun z => by omega)).trans (a7.trans (((EK.rf kN M).w x rfl) 7 10 rfl).symm)
  · exact (hF.I (fun z => by omega)).trans (a8.trans (((EK.rf kN M).w x rfl) 7 11 rfl).symm)
  · exact b1.fi hF (fun t => ((EK.rf kU M).w x rfl) 21 t rfl) (fun t => ((EK.rf kU M).w x rfl) 22 t rfl) rfl
  · exact b2.fr hF (fun k i j z => by omega) ((EK.rf kP M).w x rfl).ag
  · exact b3.fr hF.q ⟨fun z => by omega, fun z => by omega⟩ ((EK.rf kG M).w x rfl)
  · exact b4.fr hF.q (fun j z => by omega) (((EK.rf kY M).w x rfl) 7 41 rfl)
theorem CPT.m80 (h : CPT c M nT nR nA) (k : Nat) (x : Int32) (hk : M.1 43 k = -1) : CPT (c) (uI M 80 k x) nT nR nA := by
  obtain ⟨⟨a1, a2, a3, a4, a5, a6, a7, a8⟩, b1, b2, b3, b4⟩ := h
  have hF : FRI (fun _ _ _ => False) c (c) := FRI.rf _ c
  refine ⟨⟨?_, ?_, ?_, ?_, ?_, ?_, ?_, ?_⟩, ?_, ?_, ?_, ?_⟩
  · exact a1.fr hF.q (fun i j z => z) (fun j => hF.J 1 9 j) ((EK.rf kA M).w x rfl) (fun _ => rfl)
  · exact a2.fr hF.q (fun i j hi z => z) ((EK.rf kT M).w x rfl)
  · exact a3.fr hF.q (fun j => ⟨fun z => z, fun z => z, fun z => z, fun z => z⟩) ((EK.rf kW M).w x rfl)
  · exact a4.fr hF.q (fun i j z => z) (fun i j z => z) ((EK.rf kR M).w x rfl)
  · obtain ⟨j0, j1, jj⟩ := a5
    refine ⟨j0, j1, fun j hj => ?_⟩
    obtain ⟨p1, p2, p3⟩ := jj j hj
    simp only [mI_wI, mJ_wI, mP_wI, mL_wI, mA_wI, mI_wJ, mJ_wJ, mP_wJ, mL_wJ, mA_wJ, uI_1, uI_2, uJ_1, uJ_2, Nat.reduceEqDiff, false_and, and_false, true_and, and_true, reduceIte]
    refine ⟨p1, p2, fun q => ?_⟩
    by_cases e : j = k
    · rw [e] at q
      exact absurd hk q
    · rw [if_neg e]
      exact p3 q
  · exact (hF.I (fun z => z)).trans (a6.trans (((EK.rf kN M).w x rfl) 7 9 rfl).symm)
  · exact (hF.I (fun z => z)).trans (a7.trans (((EK.rf kN M).w x rfl) 7 10 rfl).symm)
  · exact (hF.I (fun z => z)).trans (a8.trans (((EK.rf kN M).w x rfl) 7 11 rfl).symm)
  · exact b1.fi hF (fun t => ((EK.rf kU M).w x rfl) 21 t rfl) (fun t => ((EK.rf kU M).w x rfl) 22 t rfl) rfl
  · exact b2.fr hF (fun k i j z => z.elim) ((EK.rf kP M).w x rfl).ag
  · exact b3.fr hF.q ⟨fun z => z, fun z => z⟩ ((EK.rf kG M).w x rfl)
  · exact b4.fr hF.q (fun j z => z) (((EK.rf kY M).w x rfl) 7 41 rfl)
theorem CPT.jend (h : CPT c M nT nR nA) {k t : Nat} (hk : k < 2) (ht : t < nT) (hT2 : nT ≤ 12) (h43 : M.1 43 k = nI t) (ho : ¬ M.1 43 (1 - k) = nI t) : CPT (wI (wI c 5 6 t 0) 0 3 k (-1)) (uI M 43 k (-1)) nT nR nA := by
  obtain ⟨⟨a1, a2, a3, a4, a5, a6, a7, a8⟩, b1, b2, b3, b4⟩ := h
  have hk2 : k = 0 ∨ k = 1 := by omega
  have hF : FRI (fun a b _ => (a = 5 ∧ b = 6) ∨ (a = 0 ∧ b = 3)) c (wI (wI c 5 6 t 0) 0 3 k (-1)) := ((FRI.rf _ c).w _ (Or.inl ⟨rfl, rfl⟩)).w _ (Or.inr ⟨rfl, rfl⟩)
  refine ⟨⟨?_, ?_, ?_, ?_, ?_, ?_, ?_, ?_⟩, ?_, ?_, ?_, ?_⟩
  · exact a1.fr hF.q (fun i j z => by omega) (fun j => hF.J 1 9 j) ((EK.rf kA M).w _ rfl) (fun _ => rfl)
  · intro s hs
    obtain ⟨t1, t2, t3, t4, t5, t6⟩ := a2 s hs
    have hm : ¬ (-1 : Int32) = nI s := fun z => nI_m1 (by omega) z.symm
    rcases hk2 with rfl | rfl
    · simp only [mI_wI, mJ_wI, mP_wI, mL_wI, mA_wI, mI_wJ, mJ_wJ, mP_wJ, mL_wJ, mA_wJ, uI_1, uI_2, uJ_1, uJ_2, Nat.reduceEqDiff, false_and, and_false, true_and, and_true, reduceIte]
      refine ⟨t1, t2, t3, t4, t5, ?_⟩
      by_cases e : s = t
      · subst e
        rw [if_pos rfl]
        exact (bi_f (fun z => z.elim hm ho)).symm
      · rw [if_neg e, t6]
        exact bi_c ⟨fun z => z.elim (fun y => absurd (by rw [h43, nI_eq_iff] at y; exact y.symm) e) Or.inr, fun z => z.elim (fun y => absurd y hm) Or.inr⟩
    · simp only [mI_wI, mJ_wI, mP_wI, mL_wI, mA_wI, mI_wJ, mJ_wJ, mP_wJ, mL_wJ, mA_wJ, uI_1, uI_2, uJ_1, uJ_2, Nat.reduceEqDiff, false_and, and_false, true_and, and_true, reduceIte]
      refine ⟨t1, t2, t3, t4, t5, ?_⟩
      by_cases e : s = t
      · subst e
        rw [if_pos rfl]
        exact (bi_f (fun z => z.elim ho hm)).symm
      · rw [if_neg e, t6]
        exact bi_c ⟨fun z => z.elim Or.inl (fun y => absurd (by rw [h43, nI_eq_iff] at y; exact y.symm) e), fun z => z.elim Or.inl (fun y => absurd y hm)⟩
  · exact a3.fr hF.q (fun j => ⟨fun z => by omega, fun z => by omega, fun z => by omega, fun z => by omega⟩) ((EK.rf kW M).w _ rfl)
  · exact a4.fr hF.q (fun i j z => by omega) (fun i j z => by omega) ((EK.rf kR M).w _ rfl)
  · obtain ⟨j0, j1, jj⟩ := a5
    refine ⟨j0, j1, fun j hj => ?_⟩
    obtain ⟨p1, p2, p3⟩ := jj j hj
    simp only [mI_wI, mJ_wI, mP_wI, mL_wI, mA_wI, mI_wJ, mJ_wJ, mP_wJ, mL_wJ, mA_wJ, uI_1, uI_2, uJ_1, uJ_2, Nat.reduceEqDiff, false_and, and_false, true_and, and_true, reduceIte]
    refine ⟨p1, by rw [p2], fun q => ?_⟩
    by_cases e : j = k
    · rw [if_pos e] at q
      exact absurd rfl q
    · rw [if_neg e] at q
      exact p3 q
  · exact (hF.I (fun z => by omega)).trans (a6.trans (((EK.rf kN M).w _ rfl) 7 9 rfl).symm)
  · exact (hF.I (fun z => by omega)).trans (a7.trans (((EK.rf kN M).w _ rfl) 7 10 rfl).symm)
  · exact (hF.I (fun z => by omega)).trans (a8.trans (((EK.rf kN M).w _ rfl) 7 11 rfl).symm)
  · exact b1.fi hF (fun t => ((EK.rf kU M).w _ rfl) 21 t rfl) (fun t => ((EK.rf kU M).w _ rfl) 22 t rfl) rfl
  · exact b2.fr hF (fun k i j z => by omega) ((EK.rf kP M).w _ rfl).ag
  · exact b3.fr hF.q ⟨fun z => by omega, fun z => by omega⟩ ((EK.rf kG M).w _ rfl)
  · exact b4.fr hF.q (fun j z => by omega) (((EK.rf kY M).w _ rfl) 7 41 rfl)
theorem CPT.job (h : CPT c M nT nR nA) {k t : Nat} (hk : k < 2) (ht : t < nT) (hT2 : nT ≤ 12) (h43 : M.1 43 k = -1) (r fr to hw br : Int32) (hb : hw = bi (br = 0)) : CPT (sjC (wI c 5 6 t 1) k (nI t) r fr to hw) (jobM M k (nI t) fr to r br) nT nR nA := by
  obtain ⟨⟨a1, a2, a3, a4, a5, a6, a7, a8⟩, b1, b2, b3, b4⟩ := h
  have hk2 : k = 0 ∨ k = 1 := by omega
  have hF : FRI (fun a b _ => (a = 5 ∧ b = 6) ∨ (a = 0 ∧ 3 ≤ b)) c (sjC (wI c 5 6 t 1) k (nI t) r fr to hw) := (((((((FRI.rf _ c).w _ (Or.inl ⟨rfl, rfl⟩)).w _ (Or.inr ⟨rfl, by omega⟩)).w _ (Or.inr ⟨rfl, by omega⟩)).w _ (Or.inr ⟨rfl, by omega⟩)).w _ (Or.inr ⟨rfl, by omega⟩)).w _ (Or.inr ⟨rfl, by omega⟩)).w _ (Or.inr ⟨rfl, by omega⟩)
  refine ⟨⟨?_, ?_, ?_, ?_, ?_, ?_, ?_, ?_⟩, ?_, ?_, ?_, ?_⟩
  · exact a1.fr hF.q (fun i j z => by omega) (fun j => hF.J 1 9 j) (((((((EK.rf kA M).w _ rfl).w _ rfl).w _ rfl).w _ rfl).w _ rfl).w _ rfl) (fun _ => rfl)
  · intro s hs
    obtain ⟨t1, t2, t3, t4, t5, t6⟩ := a2 s hs
    have hm : ¬ (-1 : Int32) = nI s := fun z => nI_m1 (by omega) z.symm
    unfold sjC jobM
    rcases hk2 with rfl | rfl
    · simp only [mI_wI, mJ_wI, mP_wI, mL_wI, mA_wI, mI_wJ, mJ_wJ, mP_wJ, mL_wJ, mA_wJ, uI_1, uI_2, uJ_1, uJ_2, Nat.reduceEqDiff, false_and, and_false, true_and, and_true, reduceIte]
      refine ⟨t1, t2, t3, t4, t5, ?_⟩
      by_cases e : s = t
      · subst e
        rw [if_pos rfl]
        exact (bi_t (Or.inl rfl)).symm
      · rw [if_neg e, t6]
        exact bi_c ⟨fun z => z.elim (fun y => absurd (h43.symm.trans y) hm) Or.inr, fun z => z.elim (fun y => absurd (by rw [nI_eq_iff] at y; exact y.symm) e) Or.inr⟩
    · simp only [mI_wI, mJ_wI, mP_wI, mL_wI, mA_wI, mI_wJ, mJ_wJ, mP_wJ, mL_wJ, mA_wJ, uI_1, uI_2, uJ_1, uJ_2, Nat.reduceEqDiff, false_and, and_false, true_and, and_true, reduceIte]
      refine ⟨t1, t2, t3, t4, t5, ?_⟩
      by_cases e : s = t
      · subst e
        rw [if_pos rfl]
        exact (bi_t (Or.inr rfl)).symm
      · rw [if_neg e, t6]
        exact bi_c ⟨fun z => z.elim Or.inl (fun y => absurd (h43.symm.trans y) hm), fun z => z.elim Or.inl (fun y => absurd (by rw [nI_eq_iff] at y; exact y.symm) e)⟩
  · exact a3.fr hF.q (fun j => ⟨fun z => by omega, fun z => by omega, fun z => by omega, fun z => by omega⟩) (((((((EK.rf kW M).w _ rfl).w _ rfl).w _ rfl).w _ rfl).w _ rfl).w _ rfl)
  · exact a4.fr hF.q (fun i j z => by omega) (fun i j z => by omega) (((((((EK.rf kR M).w _ rfl).w _ rfl).w _ rfl).w _ rfl).w _ rfl).w _ rfl)
  · obtain ⟨j0, j1, jj⟩ := a5
    unfold sjC jobM
    refine ⟨j0, j1, fun j hj => ?_⟩
    obtain ⟨p1, p2, p3⟩ := jj j hj
    simp only [mI_wI, mJ_wI, mP_wI, mL_wI, mA_wI, mI_wJ, mJ_wJ, mP_wJ, mL_wJ, mA_wJ, uI_1, uI_2, uJ_1, uJ_2, Nat.reduceEqDiff, false_and, and_false, true_and, and_true, reduceIte]
    refine ⟨p1, by rw [p2], fun q => ?_⟩
    by_cases e : j = k
    · simp only [if_pos e]
      exact ⟨trivial, trivial, trivial, hb, rfl⟩
    · simp only [if_neg e] at q ⊢
      exact p3 q
  · exact (hF.I (fun z => by omega)).trans (a6.trans ((((((((EK.rf kN M).w _ rfl).w _ rfl).w _ rfl).w _ rfl).w _ rfl).w _ rfl) 7 9 rfl).symm)
  · exact (hF.I (fun z => by omega)).trans (a7.trans ((((((((EK.rf kN M).w _ rfl).w _ rfl).w _ rfl).w _ rfl).w _ rfl).w _ rfl) 7 10 rfl).symm)
  · exact (hF.I (fun z => by omega)).trans (a8.trans ((((((((EK.rf kN M).w _ rfl).w _ rfl).w _ rfl).w _ rfl).w _ rfl).w _ rfl) 7 11 rfl).symm)
  · exact b1.fi hF (fun t => (((((((EK.rf kU M).w _ rfl).w _ rfl).w _ rfl).w _ rfl).w _ rfl).w _ rfl) 21 t rfl) (fun t => (((((((EK.rf kU M).w _ rfl).w _ rfl).w _ rfl).w _ rfl).w _ rfl).w _ rfl) 22 t rfl) rfl
  · exact b2.fr hF (fun k i j z => by omega) (((((((EK.rf kP M).w _ rfl).w _ rfl).w _ rfl).w _ rfl).w _ rfl).w _ rfl).ag
  · exact b3.fr hF.q ⟨fun z => by omega, fun z => by omega⟩ (((((((EK.rf kG M).w _ rfl).w _ rfl).w _ rfl).w _ rfl).w _ rfl).w _ rfl)
  · exact b4.fr hF.q (fun j z => by omega) ((((((((EK.rf kY M).w _ rfl).w _ rfl).w _ rfl).w _ rfl).w _ rfl).w _ rfl) 7 41 rfl)
theorem CPT.now (h : CPT c M nT nR nA) : CPT (wI c 6 10 0 (mI c 6 10 0 + 1)) (uI M 7 9 (M.1 7 9 + 1)) nT nR nA := by
  obtain ⟨⟨a1, a2, a3, a4, a5, a6, a7, a8⟩, b1, b2, b3, b4⟩ := h
  have hF : FRI (fun a b _ => a = 6 ∧ b = 10) c (wI c 6 10 0 (mI c 6 10 0 + 1)) := (FRI.rf _ c).w _ ⟨rfl, rfl⟩
  refine ⟨⟨?_, ?_, ?_, ?_, ?_, ?_, ?_, ?_⟩, ?_, ?_, ?_, ?_⟩
  · exact a1.fr hF.q (fun i j z => by omega) (fun j => hF.J 1 9 j) ((EK.rf kA M).w _ rfl) (fun _ => rfl)
  · exact a2.fr hF.q (fun i j hi z => by omega) ((EK.rf kT M).w _ rfl)
  · exact a3.fr hF.q (fun j => ⟨fun z => by omega, fun z => by omega, fun z => by omega, fun z => by omega⟩) ((EK.rf kW M).w _ rfl)
  · exact a4.fr hF.q (fun i j z => by omega) (fun i j z => by omega) ((EK.rf kR M).w _ rfl)
  · exact a5.fr hF.q (fun i j hi z => by omega) ((EK.rf kJ M).w _ rfl)
  · simp only [mI_wI, mJ_wI, mP_wI, mL_wI, mA_wI, mI_wJ, mJ_wJ, mP_wJ, mL_wJ, mA_wJ, uI_1, uI_2, uJ_1, uJ_2, Nat.reduceEqDiff, false_and, and_false, true_and, and_true, reduceIte]
    rw [a6]
  · simp only [mI_wI, mJ_wI, mP_wI, mL_wI, mA_wI, mI_wJ, mJ_wJ, mP_wJ, mL_wJ, mA_wJ, uI_1, uI_2, uJ_1, uJ_2, Nat.reduceEqDiff, false_and, and_false, true_and, and_true, reduceIte]
    exact a7
  · simp only [mI_wI, mJ_wI, mP_wI, mL_wI, mA_wI, mI_wJ, mJ_wJ, mP_wJ, mL_wJ, mA_wJ, uI_1, uI_2, uJ_1, uJ_2, Nat.reduceEqDiff, false_and, and_false, true_and, and_true, reduceIte]
    exact a8
  · exact b1.fi hF (fun t => ((EK.rf kU M).w _ rfl) 21 t rfl) (fun t => ((EK.rf kU M).w _ rfl) 22 t rfl) rfl
  · exact b2.fr hF (fun k i j z => by omega) ((EK.rf kP M).w _ rfl).ag
  · exact b3.fr hF.q ⟨fun z => by omega, fun z => by omega⟩ ((EK.rf kG M).w _ rfl)
  · exact b4.fr hF.q (fun j z => by omega) (((EK.rf kY M).w _ rfl) 7 41 rfl)
def gpC (c : HP) (M : MD) (k : Nat) (w : Int32) : HP := goC (if M.1 42 (1 - k) = M.1 42 k + w then goC c (1 - k) w else c) k w
def wGo : Nat → Nat → Nat → Prop := fun a b _ => a = 0 ∧ (b = 1 ∨ b = 2)
theorem gpC_fr (c : HP) (M : MD) (k : Nat) (w : Int32) : FRI wGo c (gpC c M k w) := by
  have h : ∀ c1 j, FRI wGo c c1 → FRI wGo c (goC c1 j w) := fun c1 j g => (g.w _ ⟨rfl, Or.inl rfl⟩).w _ ⟨rfl, Or.inr rfl⟩
  unfold gpC
  split
  · exact h _ _ (h _ _ (FRI.rf _ c))
  · exact h _ _ (FRI.rf _ c)
theorem goM_ek {f : Nat → Nat → Bool} {k : Nat} (h1 : ∀ i, f 42 i = false) (h2 : f 7 41 = false) : EK f M (goM M k) := by
  unfold goM
  refine EK.w (EK.w ?_ _ (h1 _)) _ h2
  unfold pushM
  split
  · exact ((EK.rf _ _).w _ (h1 _)).w _ h2
  · exact EK.rf _ _
theorem goM_2 {k : Nat} : (goM M k).2 = M.2 := by
  unfold goM pushM
  split <;> rfl
theorem CPT.go (h : CPT c M nT nR nA) {k : Nat} (hk : k < 2) : CPT (gpC c M k (stepF M k)) (goM M k) nT nR nA := by
  obtain ⟨⟨a1, a2, a3, a4, a5, a6, a7, a8⟩, b1, b2, b3, b4⟩ := h
  have hk2 : k = 0 ∨ k = 1 := by omega
  have hF : FRI (wGo) c (gpC c M k (stepF M k)) := gpC_fr c M k _
  refine ⟨⟨?_, ?_, ?_, ?_, ?_, ?_, ?_, ?_⟩, ?_, ?_, ?_, ?_⟩
  · exact a1.fr hF.q (fun i j z => by have := z.1; omega) (fun j => hF.J 1 9 j) (goM_ek (f := kA) (fun _ => rfl) rfl) (fun _ => by rw [goM_2])
  · exact a2.fr hF.q (fun i j hi z => by have := z.1; omega) (goM_ek (f := kT) (fun _ => rfl) rfl)
  · exact a3.fr hF.q (fun j => ⟨fun z => by have := z.1; omega, fun z => by have := z.1; omega, fun z => by have := z.1; omega, fun z => by have := z.1; omega⟩) (goM_ek (f := kW) (fun _ => rfl) rfl)
  · exact a4.fr hF.q (fun i j z => by have := z.1; omega) (fun i j z => by have := z.1; omega) (goM_ek (f := kR) (fun _ => rfl) rfl)
  · obtain ⟨j0, j1, jj⟩ := a5
    refine ⟨by rw [hF.I (fun z => by have := z.2; omega)]; exact j0, by rw [hF.I (fun z => by have := z.2; omega)]; exact j1, fun j hj => ?_⟩
    obtain ⟨p1, p2, p3⟩ := jj j hj
    have e := goM_ek (M := M) (k := k) (f := fun a _ => a == 43 || a == 44 || a == 45 || a == 46 || a == 80 || a == 81) (fun _ => rfl) rfl
    rw [hF.I (k := 0) (i := 3) (fun z => by have := z.2; omega), hF.I (k := 0) (i := 4) (fun z => by have := z.2; omega), hF.I (k := 0) (i := 5) (fun z => by have := z.2; omega), hF.I (k := 0) (i := 6) (fun z => by have := z.2; omega), hF.I (k := 0) (i := 7) (fun z => by have := z.2; omega), hF.I (k := 0) (i := 8) (fun z => by have := z.2; omega), e 43 j rfl, e 44 j rfl, e 45 j rfl, e 46 j rfl, e 80 j rfl, e 81 j rfl]
    refine ⟨?_, p2, p3⟩
    unfold gpC goM pushM goC
    by_cases q : M.1 42 (1 - k) = M.1 42 k + stepF M k
    · rw [if_pos q, if_pos q]
      have hkk : ¬ k = 1 - k := by omega
      simp only [mI_wI, mJ_wI, mP_wI, mL_wI, mA_wI, mI_wJ, mJ_wJ, mP_wJ, mL_wJ, mA_wJ, uI_1, uI_2, uJ_1, uJ_2, Nat.reduceEqDiff, false_and, and_false, true_and, and_true, reduceIte, (jj (1 - k) (by omega)).1, (jj k hk).1, if_neg hkk, p1]
    · rw [if_neg q, if_neg q]
      simp only [mI_wI, mJ_wI, mP_wI, mL_wI, mA_wI, mI_wJ, mJ_wJ, mP_wJ, mL_wJ, mA_wJ, uI_1, uI_2, uJ_1, uJ_2, Nat.reduceEqDiff, false_and, and_false, true_and, and_true, reduceIte, (jj k hk).1, p1]
  · exact (hF.I (fun z => by have := z.1; omega)).trans (a6.trans ((goM_ek (f := kN) (fun _ => rfl) rfl) 7 9 rfl).symm)
  · exact (hF.I (fun z => by have := z.1; omega)).trans (a7.trans ((goM_ek (f := kN) (fun _ => rfl) rfl) 7 10 rfl).symm)
  · exact (hF.I (fun z => by have := z.1; omega)).trans (a8.trans ((goM_ek (f := kN) (fun _ => rfl) rfl) 7 11 rfl).symm)
  · exact b1.fi hF (fun t => (goM_ek (f := kU) (fun _ => rfl) rfl) 21 t rfl) (fun t => (goM_ek (f := kU) (fun _ => rfl) rfl) 22 t rfl) goM_2
  · exact b2.fr hF (fun k i j z => by have := z.1; omega) (goM_ek (f := kP) (fun _ => rfl) rfl).ag
  · exact b3.fr hF.q ⟨fun z => by have := z.1; omega, fun z => by have := z.1; omega⟩ (goM_ek (f := kG) (fun _ => rfl) rfl)
  · unfold GNC gpC goM pushM goC
    unfold GNC at b4
    rcases hk2 with rfl | rfl
    · by_cases q : M.1 42 (1 - 0) = M.1 42 0 + stepF M 0
      · rw [if_pos q, if_pos q]
        simp only [mI_wI, mJ_wI, mP_wI, mL_wI, mA_wI, mI_wJ, mJ_wJ, mP_wJ, mL_wJ, mA_wJ, uI_1, uI_2, uJ_1, uJ_2, Nat.reduceEqDiff, false_and, and_false, true_and, and_true, reduceIte, ← b4, Nat.reduceSub]
        ac_rfl
      · rw [if_neg q, if_neg q]
        simp only [mI_wI, mJ_wI, mP_wI, mL_wI, mA_wI, mI_wJ, mJ_wJ, mP_wJ, mL_wJ, mA_wJ, uI_1, uI_2, uJ_1, uJ_2, Nat.reduceEqDiff, false_and, and_false, true_and, and_true, reduceIte, ← b4, Nat.reduceSub]
        ac_rfl
    · by_cases q : M.1 42 (1 - 1) = M.1 42 1 + stepF M 1
      · rw [if_pos q, if_pos q]
        simp only [mI_wI, mJ_wI, mP_wI, mL_wI, mA_wI, mI_wJ, mJ_wJ, mP_wJ, mL_wJ, mA_wJ, uI_1, uI_2, uJ_1, uJ_2, Nat.reduceEqDiff, false_and, and_false, true_and, and_true, reduceIte, ← b4, Nat.reduceSub]
        ac_rfl
      · rw [if_neg q, if_neg q]
        simp only [mI_wI, mJ_wI, mP_wI, mL_wI, mA_wI, mI_wJ, mJ_wJ, mP_wJ, mL_wJ, mA_wJ, uI_1, uI_2, uJ_1, uJ_2, Nat.reduceEqDiff, false_and, and_false, true_and, and_true, reduceIte, ← b4, Nat.reduceSub]
        ac_rfl
end ZC26
