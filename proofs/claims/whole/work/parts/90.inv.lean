/-! The class beside the model: all of it, between two calls -/
def SHC (c : HP) (M : MD) : Prop := ∃ n sz ct, SHD c n sz ct ∧ ItL M n sz ct ∧ ((mI c 4 7 0 = 1 ∧ LDF c n sz ct) ∨ mI c 4 7 0 = 0)
def FRS (c : HP) (nT nR nA : Nat) : Prop := (∀ t, nT ≤ t → mA c 5 t = false ∧ mA c 89 t = false) ∧ (∀ k, nR ≤ k → mA c 3 k = false ∧ mA c 19 k = false) ∧ ∀ k, nA ≤ k → mA c 1 k = false
def CNT (c : HP) (nT nR nA : Nat) : Prop := mI c 6 7 0 = nI nT ∧ mI c 6 8 0 = nI nR ∧ mI c 6 9 0 = nI nA
def CPL (c : HP) (M : MD) (nT nR nA : Nat) : Prop := SKF c ∧ SKD c nT nR nA ∧ SKM c ∧ CPT c M nT nR nA ∧ CNT c nT nR nA ∧ SHC c M ∧ FRS c nT nR nA
/-- what the law has of its own -/
def LEV (L : Nat) (s : Nat → Int32) (c : HP) : Prop := mA c 90 0 = true ∧ mL c 90 0 = 1 ∧ mA c 127 0 = true ∧ mL c 127 0 = L ∧ ∀ i, mI c 127 i 0 = s i
def INV (L : Nat) (s : Nat → Int32) (c : HP) (M : MD) (nw : Nat) : Prop := ∃ nT nR nA, nT ≤ 12 ∧ nR ≤ 3 ∧ nA ≤ 150 ∧ CPL c M nT nR nA ∧ GMI M nT nR nA ∧ TMI M nA nw ∧ LEV L s c
section ZINV
variable {w : Nat → Nat → Nat → Prop} {c c' : HP} {M M' : MD} {nT nR nA nw L : Nat} {s : Nat → Int32}
theorem FRJ.skm (h : FRJ w c c') (g : SKM c) : SKM c' := by
  unfold SKM at g ⊢
  rw [h.1, h.2.1, h.2.2.1]
  exact g
theorem FRJ.frs (h : FRJ w c c') (g : FRS c nT nR nA) : FRS c' nT nR nA := ⟨fun t ht => by rw [h.A, h.A]; exact g.1 t ht, fun k hk => by rw [h.A, h.A]; exact g.2.1 k hk, fun k hk => by rw [h.A]; exact g.2.2 k hk⟩
theorem FRJ.lev (h : FRJ w c c') (q : ∀ i j, ¬ w 127 i j) (g : LEV L s c) : LEV L s c' := by
  obtain ⟨g1, g2, g3, g4, g5⟩ := g
  exact ⟨by rw [h.A]; exact g1, by rw [h.L]; exact g2, by rw [h.A]; exact g3, by rw [h.L]; exact g4, fun i => by rw [h.I (q i 0)]; exact g5 i⟩
theorem SHC.fr (h : SHC c M) (g : FRJ w c c') (q : ∀ a i j, w a i j → ¬ (a = 4 ∨ a = 16 ∨ a = 17 ∨ a = 18 ∨ a = 88)) (e : EK kS M M') : SHC c' M' := by
  obtain ⟨n, sz, ct, ⟨h1, h2, h3, h4⟩, ⟨i1, i2, i3⟩, h5⟩ := h
  refine ⟨n, sz, ct, ⟨h1, by rw [g.I (fun z => by have := q _ _ _ z; omega)]; exact h2, by rw [g.I (fun z => by have := q _ _ _ z; omega)]; exact h3, fun i hi => by rw [g.I (fun z => by have := q _ _ _ z; omega), g.I (fun z => by have := q _ _ _ z; omega)]; exact h4 i hi⟩, ⟨i1, by rw [e 7 42 rfl]; exact i2, fun i hi => by rw [e 47 i rfl, e 48 i rfl]; exact i3 i hi⟩, ?_⟩
  rw [g.I (fun z => by have := q _ _ _ z; omega)]
  rcases h5 with ⟨h5, h6, h7⟩ | h5
  · exact Or.inl ⟨h5, by rw [g.J (fun z => by have := q _ _ _ z; omega)]; exact h6, fun i hi => by rw [g.I (fun z => by have := q _ _ _ z; omega)]; exact h7 i hi⟩
  · exact Or.inr h5
/-- calls that make nothing and leave the shelf -/
theorem INV.tk (hT2 : nT ≤ 12) (hR2 : nR ≤ 3) (hA2 : nA ≤ 150) (hC : CPL c M nT nR nA) (hL : LEV L s c) (hF : FRJ wTk c c') (hP : CPT c' M' nT nR nA) (e : EK kS M M') (hG : GMI M' nT nR nA) (hN : TMI M' nA nw) : INV L s c' M' nw := by
  obtain ⟨c1, c2, c3, c4, ⟨c5, c6, c7⟩, c8, c9⟩ := hC
  refine ⟨nT, nR, nA, hT2, hR2, hA2, ⟨hF.sk c1, hF.skd c2, hF.skm c3, hP, ⟨?_, ?_, ?_⟩, c8.fr hF (fun a i j z => by unfold wTk at z; omega) e, hF.frs c9⟩, hG, hN, hF.lev (fun i j z => by unfold wTk at z; omega) hL⟩
  · rw [hF.I (fun z => by unfold wTk at z; omega)]
    exact c5
  · rw [hF.I (fun z => by unfold wTk at z; omega)]
    exact c6
  · rw [hF.I (fun z => by unfold wTk at z; omega)]
    exact c7
/-! the model's scratch is nothing to it -/
theorem SC.ek {f : Nat → Nat → Bool} (h : SC M M') (q : ∀ k i, f k i = true → scr k i = false) : EK f M M' := fun k i z => h.1 k i (q k i z)
theorem scr_f {k i : Nat} (h : ¬ (k = 32 ∨ k = 33 ∨ k = 34 ∨ k = 49 ∨ k = 50 ∨ (k = 7 ∧ (i = 0 ∨ i = 20 ∨ i = 22 ∨ i = 25)))) : scr k i = false := by
  cases z : scr k i with
  | false => rfl
  | true =>
    unfold scr at z
    simp only [Bool.or_eq_true, Bool.and_eq_true, beq_iff_eq] at z
    omega
theorem CPT.sc (h : CPT c M nT nR nA) (g : SC M M') : CPT c M' nT nR nA := by
  obtain ⟨⟨a1, a2, a3, a4, a5, a6, a7, a8⟩, b1, b2, b3, b4⟩ := h
  have hF : FRI (fun _ _ _ => False) c c := FRI.rf _ _
  have ek : ∀ f : Nat → Nat → Bool, (∀ b i, f b i = true → ¬ (b = 32 ∨ b = 33 ∨ b = 34 ∨ b = 49 ∨ b = 50 ∨ (b = 7 ∧ (i = 0 ∨ i = 20 ∨ i = 22 ∨ i = 25)))) → EK f M M' := fun f q => g.ek (fun k i z => scr_f (q k i z))
  exact ⟨⟨a1.fr hF.q (fun i j z => z) (fun j => rfl) (ek kA (fun b i q => by simp only [kA, Bool.or_eq_true, Bool.and_eq_true, beq_iff_eq] at q; omega)) (fun j => g.2 92 j (by omega)), a2.fr hF.q (fun i j hi z => z) (ek kT (fun b i q => by simp only [kT, Bool.or_eq_true, Bool.and_eq_true, beq_iff_eq] at q; omega)), a3.fr hF.q (fun j => ⟨fun z => z, fun z => z, fun z => z, fun z => z⟩) (ek kW (fun b i q => by simp only [kW, Bool.or_eq_true, Bool.and_eq_true, beq_iff_eq] at q; omega)), a4.fr hF.q (fun i j z => z) (fun i j z => z) (ek kR (fun b i q => by simp only [kR, Bool.or_eq_true, Bool.and_eq_true, beq_iff_eq] at q; omega)), a5.fr hF.q (fun i j hi z => z) (ek kJ (fun b i q => by simp only [kJ, Bool.or_eq_true, Bool.and_eq_true, beq_iff_eq] at q; omega)), a6.trans g.s9.symm, a7.trans g.s10.symm, a8.trans g.s11.symm⟩, b1.fr (fun _ => rfl) (fun _ => rfl) (fun _ _ => rfl) (fun t => g.r21 t) (fun t => g.r22 t) (fun i => g.r91 i), b2.fr hF (fun k i j z => z.elim) ((ek kP (fun b i q => by simp only [kP, Bool.or_eq_true, Bool.and_eq_true, beq_iff_eq] at q; omega))).ag, b3.fr hF.q ⟨fun z => z, fun z => z⟩ (ek kG (fun b i q => by simp only [kG, Bool.or_eq_true, Bool.and_eq_true, beq_iff_eq] at q; omega)), b4.fr hF.q (fun j z => z) g.s41⟩
theorem GMI.sc (h : GMI M nT nR nA) (g : SC M M') : GMI M' nT nR nA := by
  obtain ⟨gS, gA, gH, gW, gR, gJ, gT, gI, gD, gSp, u1, u2, u3, u4⟩ := h
  have ek : ∀ f : Nat → Nat → Bool, (∀ b i, f b i = true → ¬ (b = 32 ∨ b = 33 ∨ b = 34 ∨ b = 49 ∨ b = 50 ∨ (b = 7 ∧ (i = 0 ∨ i = 20 ∨ i = 22 ∨ i = 25)))) → EK f M M' := fun f q => g.ek (fun k i z => scr_f (q k i z))
  exact ⟨gS.fr (ek kS (fun b i q => by simp only [kS, Bool.or_eq_true, Bool.and_eq_true, beq_iff_eq] at q; omega)), gA.fr (ek kS (fun b i q => by simp only [kS, Bool.or_eq_true, Bool.and_eq_true, beq_iff_eq] at q; omega)), gH.fr (ek kGH (fun b i q => by simp only [kGH, Bool.or_eq_true, Bool.and_eq_true, beq_iff_eq] at q; omega)), gW.fr (ek kGW (fun b i q => by simp only [kGW, Bool.or_eq_true, Bool.and_eq_true, beq_iff_eq] at q; omega)), gR.fr (ek kGR (fun b i q => by simp only [kGR, Bool.or_eq_true, Bool.and_eq_true, beq_iff_eq] at q; omega)), gJ.fr (ek kGJ (fun b i q => by simp only [kGJ, Bool.or_eq_true, Bool.and_eq_true, beq_iff_eq] at q; omega)), gT.fr (ek kGT (fun b i q => by simp only [kGT, Bool.or_eq_true, Bool.and_eq_true, beq_iff_eq] at q; omega)), gI.fr (ek kGI (fun b i q => by simp only [kGI, Bool.or_eq_true, Bool.and_eq_true, beq_iff_eq] at q; omega)), gD.fr (ek kGD (fun b i q => by simp only [kGD, Bool.or_eq_true, Bool.and_eq_true, beq_iff_eq] at q; omega)), gSp.fr (ek kGp (fun b i q => by simp only [kGp, Bool.or_eq_true, Bool.and_eq_true, beq_iff_eq] at q; omega)), fun t ht => by rw [g.r23, g.r24]; exact u1 t ht, fun i hi => by rw [g.r91]; exact u2 i hi, fun k hk => by rw [g.r92]; exact u3 k hk, fun k hk => by rw [g.r39, g.r40]; exact u4 k hk⟩
theorem INV.sc (h : INV L s c M nw) (g : SC M M') : INV L s c M' nw := by
  obtain ⟨nT, nR, nA, hT2, hR2, hA2, ⟨c1, c2, c3, c4, c5, c6, c7⟩, hG, hN, hL⟩ := h
  have ek : ∀ f : Nat → Nat → Bool, (∀ b i, f b i = true → ¬ (b = 32 ∨ b = 33 ∨ b = 34 ∨ b = 49 ∨ b = 50 ∨ (b = 7 ∧ (i = 0 ∨ i = 20 ∨ i = 22 ∨ i = 25)))) → EK f M M' := fun f q => g.ek (fun k i z => scr_f (q k i z))
  exact ⟨nT, nR, nA, hT2, hR2, hA2, ⟨c1, c2, c3, c4.sc g, c5, c6.fr (FRJ.rf (fun _ _ _ => False) c) (fun a i j z => z.elim) (ek kS (fun b i q => by simp only [kS, Bool.or_eq_true, Bool.and_eq_true, beq_iff_eq] at q; omega)), c7⟩, hG.sc g, hN.fr (ek kTM (fun b i q => by simp only [kTM, Bool.or_eq_true, Bool.and_eq_true, beq_iff_eq] at q; omega)), hL⟩
end ZINV
