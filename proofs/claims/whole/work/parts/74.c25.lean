/-! The class beside the model: all that a tick changes -/
def EK (f : Nat → Nat → Bool) (M M' : MD) : Prop := ∀ k i, f k i = true → M'.1 k i = M.1 k i
theorem EK.rf (f : Nat → Nat → Bool) (M : MD) : EK f M M := fun _ _ _ => rfl
theorem EK.tr {f : Nat → Nat → Bool} {M M1 M2 : MD} (h : EK f M M1) (g : EK f M1 M2) : EK f M M2 := fun k i q => (g k i q).trans (h k i q)
theorem EK.sy {f : Nat → Nat → Bool} {M M1 : MD} (h : EK f M M1) : EK f M1 M := fun k i q => (h k i q).symm
theorem EK.w {f : Nat → Nat → Bool} {M M1 : MD} (h : EK f M M1) {k i : Nat} (x : Int32) (hk : f k i = false) : EK f M (uI M1 k i x) := fun a b q => by
  rw [uI_1, if_neg (fun z => by rw [z.1, z.2, hk] at q; cases q)]
  exact h a b q
theorem EK.mo {f g : Nat → Nat → Bool} {M M1 : MD} (h : EK f M M1) (q : ∀ k i, g k i = true → f k i = true) : EK g M M1 := fun k i z => h k i (q k i z)
def kA (k _ : Nat) : Bool := k == 22 || k == 25 || k == 26 || k == 27 || k == 28 || k == 29 || k == 30 || k == 31
def kT (k _ : Nat) : Bool := k == 20 || k == 21 || k == 22 || k == 23 || k == 24 || k == 43
def kW (k _ : Nat) : Bool := k == 25 || k == 26 || k == 29 || k == 30
def kR (k _ : Nat) : Bool := k == 35 || k == 36 || k == 37 || k == 38 || k == 39 || k == 40 || k == 41
def kJ (k _ : Nat) : Bool := k == 42 || k == 43 || k == 44 || k == 45 || k == 46 || k == 80 || k == 81
def kP (k _ : Nat) : Bool := k == 22 || k == 23 || k == 25 || k == 26 || k == 27 || k == 28 || k == 30
def kG (k _ : Nat) : Bool := k == 29 || k == 31
def kS (k i : Nat) : Bool := k == 20 || k == 21 || k == 22 || k == 25 || k == 26 || k == 27 || k == 28 || k == 29 || k == 35 || k == 47 || k == 48 || (k == 7 && (i == 1 || i == 8 || i == 26 || i == 42 || i == 10 || i == 11))
theorem EK.ag {M M' : MD} (h : EK kP M M') : AG M M' := h
def QI (w : Nat → Nat → Nat → Prop) (c c' : HP) : Prop := ∀ k i j, ¬ w k i j → mI c' k i j = mI c k i j
/-- rows, plans, ages, places gone -/
def CRw (c : HP) (M : MD) (nT : Nat) : Prop := ∀ t, t < nT → (M.1 21 t = 4 ∧ mP c 5 3 t = none) ∨ (¬ M.1 21 t = 4 ∧ mP c 5 3 t = some (ob 89 t) ∧ ∃ p, p ≤ 60 ∧ M.1 22 t = nI p ∧ mL c 89 t = p ∧ ∀ i, i < p → mJ c 89 i t = M.2 91 (60 * t + i))
def PLC (c : HP) (M : MD) (nT nA : Nat) : Prop := mI c 6 13 0 = -1 ∨ ∃ t, t < nT ∧ mI c 6 13 0 = nI t ∧ PLN c M t nA
def AGC (c : HP) (M : MD) (nA : Nat) : Prop := mI c 6 16 0 = ageF M false nA ∧ mI c 6 17 0 = ageF M true nA
def GNC (c : HP) (M : MD) : Prop := mI c 0 2 0 + mI c 0 2 1 = M.1 7 41
def CPT (c : HP) (M : MD) (nT nR nA : Nat) : Prop := CHO c M nT nR nA ∧ CRw c M nT ∧ PLC c M nT nA ∧ AGC c M nA ∧ GNC c M
section ZC25
variable {w : Nat → Nat → Nat → Prop} {c c' : HP} {M M' : MD} {nT nR nA : Nat}
theorem CA.fr (h : CA c M nA) (g : QI w c c') (q : ∀ i j, ¬ w 1 i j) (gj : ∀ j, mJ c' 1 9 j = mJ c 1 9 j) (e : EK kA M M') (e2 : ∀ j, M'.2 92 j = M.2 92 j) : CA c' M' nA := fun k hk => by
  have ef : fromF M' k = fromF M k := by unfold fromF; rw [e 25 k rfl, e 27 k rfl]
  have et : toF M' k = toF M k := by unfold toF; rw [e 25 k rfl, e 26 k rfl, e 28 k rfl, e 27 k rfl, e 22 _ rfl]
  rw [g 1 0 k (q _ _), g 1 1 k (q _ _), g 1 2 k (q _ _), g 1 3 k (q _ _), g 1 4 k (q _ _), g 1 5 k (q _ _), g 1 6 k (q _ _), g 1 7 k (q _ _), g 1 8 k (q _ _), gj, ef, et, e 25 k rfl, e 26 k rfl, e 27 k rfl, e 28 k rfl, e 29 k rfl, e 30 k rfl, e 31 k rfl, e2]
  exact h k hk
theorem CTp.fr (h : CTp c M nT) (g : QI w c c') (q : ∀ i j, i < 7 → ¬ w 5 i j) (e : EK kT M M') : CTp c' M' nT := fun t ht => by
  rw [g 5 0 t (q _ _ (by omega)), g 5 1 t (q _ _ (by omega)), g 5 2 t (q _ _ (by omega)), g 5 4 t (q _ _ (by omega)), g 5 5 t (q _ _ (by omega)), g 5 6 t (q _ _ (by omega)), e 20 t rfl, e 21 t rfl, e 22 t rfl, e 23 t rfl, e 24 t rfl, e 43 0 rfl, e 43 1 rfl]
  exact h t ht
theorem wcl_ek (e : EK kW M M') (t k : Nat) : wcl M' t k = wcl M t k := by unfold wcl; rw [e 26 k rfl, e 30 k rfl, e 25 k rfl]
theorem crd_ek (e : EK kW M M') (t k : Nat) : crd M' t k = crd M t k := by unfold crd; rw [e 26 k rfl, e 30 k rfl, e 25 k rfl, e 29 k rfl]
theorem CW.fr (h : CW c M nT nA) (g : QI w c c') (q : ∀ j, ¬ w 6 14 j ∧ ¬ w 6 15 j ∧ ¬ w 5 7 j ∧ ¬ w 5 8 j) (e : EK kW M M') : CW c' M' nT nA := by
  obtain ⟨h1, h2, h3⟩ := h
  refine ⟨?_, ?_, fun t ht => ?_⟩
  · rw [g _ _ _ (q _).1, cn_cong (q := fun k => decide (M.1 30 k = 0 ∧ ¬ M.1 25 k = 3)) nA (fun k _ => by rw [e 30 k rfl, e 25 k rfl])]
    exact h1
  · rw [g _ _ _ (q _).2.1, cn_cong (q := fun k => decide (M.1 30 k = 0 ∧ M.1 25 k = 3)) nA (fun k _ => by rw [e 30 k rfl, e 25 k rfl])]
    exact h2
  · rw [g _ _ _ (q _).2.2.1, g _ _ _ (q _).2.2.2, cn_cong (q := wcl M t) nA (fun k _ => wcl_ek e t k), sm_cong (g := crd M t) nA (fun k _ => crd_ek e t k)]
    exact h3 t ht
theorem CRd.fr (h : CRd c M nR) (g : QI w c c') (q : ∀ i j, ¬ w 3 i j) (q2 : ∀ i j, ¬ w 19 i j) (e : EK kR M M') : CRd c' M' nR := fun k hk => by
  have ew : wkN M' k = wkN M k := by unfold wkN; rw [e 39 k rfl]
  obtain ⟨h1, h2, h3, h4, h5, x, h6, h7, h8, h9⟩ := h k hk
  rw [g 3 0 k (q _ _), g 3 2 k (q _ _), g 3 3 k (q _ _), g 3 6 k (q _ _), g 3 7 k (q _ _), e 35 k rfl, e 36 k rfl, e 37 k rfl, e 40 k rfl, e 41 k rfl, ew]
  refine ⟨h1, h2, h3, h4, h5, x, by rw [g 3 4 k (q _ _)]; exact h6, by rw [g 3 5 k (q _ _)]; exact h7, h8, fun i hi => ?_⟩
  rw [g 19 _ k (q2 _ _), e 38 _ rfl]
  exact h9 i hi
theorem CAr.fr (h : CAr c M) (g : QI w c c') (q : ∀ i j, i ≠ 2 → ¬ w 0 i j) (e : EK kJ M M') : CAr c' M' := by
  obtain ⟨h1, h2, h3⟩ := h
  refine ⟨by rw [g _ _ _ (q _ _ (by omega))]; exact h1, by rw [g _ _ _ (q _ _ (by omega))]; exact h2, fun j hj => ?_⟩
  rw [g 0 1 j (q _ _ (by omega)), g 0 3 j (q _ _ (by omega)), g 0 4 j (q _ _ (by omega)), g 0 5 j (q _ _ (by omega)), g 0 6 j (q _ _ (by omega)), g 0 7 j (q _ _ (by omega)), g 0 8 j (q _ _ (by omega)), e 42 j rfl, e 43 j rfl, e 44 j rfl, e 45 j rfl, e 46 j rfl, e 80 j rfl, e 81 j rfl]
  exact h3 j hj
theorem CRw.fr (h : CRw c M nT) (gP : ∀ j, mP c' 5 3 j = mP c 5 3 j) (gL : ∀ j, mL c' 89 j = mL c 89 j) (gJ : ∀ i j, mJ c' 89 i j = mJ c 89 i j) (e1 : ∀ t, M'.1 21 t = M.1 21 t) (e2 : ∀ t, M'.1 22 t = M.1 22 t) (e3 : ∀ i, M'.2 91 i = M.2 91 i) : CRw c' M' nT := fun t ht => by
  rw [gP, gL, e1, e2]
  rcases h t ht with q | ⟨q1, q2, p, q3, q4, q5, q6⟩
  · exact Or.inl q
  · exact Or.inr ⟨q1, q2, p, q3, q4, q5, fun i hi => by rw [gJ, e3]; exact q6 i hi⟩
theorem PLN.fr {t : Nat} (h : PLN c M t nA) (g : FRI w c c') (q : ∀ k i j, w k i j → k ≠ 2 ∧ ¬ (8 ≤ k ∧ k ≤ 15)) (e : AG M M') : PLN c' M' t nA := by
  have e1 := gl_ag e t nA
  have e2 := hdN_ag e t
  have e3 : (fun i => frN M' (oL M' t nA i)) = (fun i => frN M (oL M t nA i)) := funext fun i => by rw [oL_ag e, frN_ag e]
  have e4 : (fun i => toN M' (oL M' t nA i)) = (fun i => toN M (oL M t nA i)) := funext fun i => by rw [oL_ag e, toN_ag e]
  have e5 := oV_ag e t nA
  have e6 : oW M' t nA = oW M t nA := by unfold oW; rw [e2, e3, e4, e5]
  obtain ⟨p1, ⟨m, p2⟩, p3, p4, p5, p6, p7⟩ := h
  unfold PLN
  rw [e1, e2, e3, e4, e5, e5, e6]
  refine ⟨p1.fr g (fun k i j z => by have := q k i j z; omega), ⟨m, p2.fr g (fun i => ⟨fun z => by have := q _ _ _ z; omega, fun z => by have := q _ _ _ z; omega, fun z => by have := q _ _ _ z; omega, fun z => by have := q _ _ _ z; omega⟩)⟩, p3.fr g (fun i => ⟨fun z => by have := q _ _ _ z; omega, fun z => by have := q _ _ _ z; omega⟩), fun i hi => ?_, ?_, ?_, ?_⟩
  · rw [g.I (fun z => by have := q _ _ _ z; omega), oS_ag e]
    exact p4 i hi
  · rw [g.I (fun z => by have := q _ _ _ z; omega)]
    exact p5
  · rw [g.I (fun z => by have := q _ _ _ z; omega)]
    exact p6
  · rw [g.I (fun z => by have := q _ _ _ z; omega)]
    exact p7
theorem PLC.fr (h : PLC c M nT nA) (g : FRI w c c') (q : ∀ k i j, w k i j → k ≠ 2 ∧ ¬ (8 ≤ k ∧ k ≤ 15) ∧ ¬ (k = 6 ∧ i = 13)) (e : AG M M') : PLC c' M' nT nA := by
  have e0 : mI c' 6 13 0 = mI c 6 13 0 := g.I (fun z => (q _ _ _ z).2.2 ⟨rfl, rfl⟩)
  unfold PLC
  rw [e0]
  rcases h with h | ⟨t, h1, h2, h3⟩
  · exact Or.inl h
  · exact Or.inr ⟨t, h1, h2, h3.fr g (fun k i j z => ⟨(q k i j z).1, (q k i j z).2.1⟩) e⟩
theorem ageF_ek (e : EK kG M M') (b : Bool) : ∀ n, ageF M' b n = ageF M b n
  | 0 => rfl
  | n + 1 => by
    unfold ageF
    rw [ageF_ek e b n, e 29 n rfl, e 31 n rfl]
theorem AGC.fr (h : AGC c M nA) (g : QI w c c') (q : ¬ w 6 16 0 ∧ ¬ w 6 17 0) (e : EK kG M M') : AGC c' M' nA := by
  unfold AGC
  rw [g _ _ _ q.1, g _ _ _ q.2, ageF_ek e, ageF_ek e]
  exact h
theorem GNC.fr (h : GNC c M) (g : QI w c c') (q : ∀ j, ¬ w 0 2 j) (e : M'.1 7 41 = M.1 7 41) : GNC c' M' := by
  unfold GNC
  rw [g _ _ _ (q _), g _ _ _ (q _), e]
  exact h
theorem FRI.q (g : FRI w c c') : QI w c c' := g.2.2.2
theorem FRJ.q (g : FRJ w c c') : QI w c c' := g.2.2.2.1
theorem FRI.j (g : FRI w c c') : FRJ w c c' := ⟨g.1, g.2.1, by rw [g.2.2.1], g.2.2.2, fun k i j _ => g.J k i j⟩
theorem FRJ.tr {c2 : HP} (h : FRJ w c c') (g : FRJ w c' c2) : FRJ w c c2 := ⟨g.1.trans h.1, g.2.1.trans h.2.1, g.2.2.1.trans h.2.2.1, fun k i j q => (g.2.2.2.1 k i j q).trans (h.2.2.2.1 k i j q), fun k i j q => (g.2.2.2.2 k i j q).trans (h.2.2.2.2 k i j q)⟩
theorem FRJ.mo {w' : Nat → Nat → Nat → Prop} (h : FRJ w c c') (g : ∀ k i j, w k i j → w' k i j) : FRJ w' c c' := ⟨h.1, h.2.1, h.2.2.1, fun k i j q => h.2.2.2.1 k i j (fun z => q (g k i j z)), fun k i j q => h.2.2.2.2 k i j (fun z => q (g k i j z))⟩
theorem FRJ.A (h : FRJ w c c') (k j : Nat) : mA c' k j = mA c k j := by unfold mA; rw [h.1]
theorem FRJ.L (h : FRJ w c c') (k j : Nat) : mL c' k j = mL c k j := by unfold mL; rw [h.2.1]
theorem FRJ.P (h : FRJ w c c') (k i j : Nat) : mP c' k i j = mP c k i j := by unfold mP; rw [h.2.2.1]
theorem FRJ.skd (h : FRJ w c c') (g : SKD c nT nR nA) : SKD c' nT nR nA := by
  obtain ⟨g1, g2, g3, g4, g5, g6⟩ := g
  exact ⟨fun i hi => by rw [h.P]; exact g1 i hi, fun i hi => by rw [h.P]; exact g2 i hi, fun i hi => by rw [h.P]; exact g3 i hi, fun t ht => by rw [h.A]; exact g4 t ht, fun k hk => by rw [h.A, h.P, h.L]; exact g5 k hk, fun k hk => by rw [h.A]; exact g6 k hk⟩
theorem CRw.fi (h : CRw c M nT) (g : FRI w c c') (e1 : ∀ t, M'.1 21 t = M.1 21 t) (e2 : ∀ t, M'.1 22 t = M.1 22 t) (e3 : M'.2 = M.2) : CRw c' M' nT := h.fr (fun j => g.P 5 3 j) (fun j => g.L 89 j) (fun i j => g.J 89 i j) e1 e2 (fun i => by rw [e3])
end ZC25
/-- what a tick may write -/
def wTk : Nat → Nat → Nat → Prop := fun k i _ => (k = 0 ∧ 1 ≤ i) ∨ (k = 1 ∧ 7 ≤ i) ∨ k = 2 ∨ (k = 3 ∧ 2 ≤ i) ∨ (k = 5 ∧ 4 ≤ i) ∨ (k = 6 ∧ (i = 10 ∨ (13 ≤ i ∧ i ≤ 17))) ∨ (8 ≤ k ∧ k ≤ 15) ∨ k = 19 ∨ k = 89
