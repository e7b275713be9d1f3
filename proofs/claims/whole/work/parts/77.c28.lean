/-! The class beside the model: an arm takes, puts; a reader begins -/
theorem wI_comm (c : HP) {a b e a' b' e' : Nat} (x y : Int32) (h : ¬ (a = a' ∧ b = b' ∧ e = e')) : wI (wI c a b e x) a' b' e' y = wI (wI c a' b' e' y) a b e x := by
  unfold wI
  simp only [Prod.mk.injEq, true_and, and_true]
  funext i j k
  by_cases h1 : i = a ∧ j = b ∧ k = e
  · have h2 : ¬ (i = a' ∧ j = b' ∧ k = e') := fun z => h ⟨h1.1.symm.trans z.1, h1.2.1.symm.trans z.2.1, h1.2.2.symm.trans z.2.2⟩
    rw [if_neg h2, if_pos h1, if_pos h1]
  · rw [if_neg h1]
    by_cases h2 : i = a' ∧ j = b' ∧ k = e'
    · rw [if_pos h2, if_neg h1]
    · rw [if_neg h2, if_neg h1]
section ZC28
variable {c : HP} {M : MD} {nT nR nA : Nat}
theorem CPT.take (h : CPT c M nT nR nA) {k t r : Nat} (hk : k < 2) (hj : ¬ M.1 43 k = -1) (h36 : M.1 81 k = 0 → M.1 36 r = 3 ∨ M.1 36 r = 4) (hr : r < nR) : CPT (taC c k t r) (takeM M k t r) nT nR nA := by
  obtain ⟨q1, q2, q3, q4, q5⟩ := (h.1.2.2.2.2.1.2.2 k hk).2.2 hj
  have e32 := (h.1.2.2.2.1 r hr).2.1
  unfold taC takeM
  rw [q4, e32]
  by_cases z : M.1 81 k = 0
  · rw [bi_t z, if_neg (by decide), if_pos z]
    rcases h36 z with y | y
    · rw [if_pos y, if_neg (by rw [y]; decide)]
      exact (((h.w08 k 1 (Or.inr rfl)).w55 t 1).w33 r (-1)).w32 r 0 (fun q => absurd q (by decide))
    · rw [if_neg (by rw [y]; decide), if_pos y]
      exact ((h.w08 k 1 (Or.inr rfl)).w55 t 1).w33 r (-1)
  · rw [bi_f z, if_pos rfl, if_neg z]
    exact (h.w08 k 1 (Or.inr rfl)).w55 t 1
theorem taC_fr (c : HP) (k t r : Nat) : FRI wTk c (taC c k t r) := by
  have h := FRI.rf wTk c
  unfold taC
  split
  · exact (h.w _ (by unfold wTk; omega)).w _ (by unfold wTk; omega)
  · split
    · exact (((h.w _ (by unfold wTk; omega)).w _ (by unfold wTk; omega)).w _ (by unfold wTk; omega)).w _ (by unfold wTk; omega)
    · exact ((h.w _ (by unfold wTk; omega)).w _ (by unfold wTk; omega)).w _ (by unfold wTk; omega)
theorem CPT.home (h : CPT c M nT nR nA) {k t : Nat} (hk : k < 2) (ht : t < nT) (hT2 : nT ≤ 12) (h43 : M.1 43 k = nI t) (ho : ¬ M.1 43 (1 - k) = nI t) : CPT (wI (wI (wI c 5 6 t 0) 5 5 t 0) 0 3 k (-1)) (uI (uI (uI M 43 k (-1)) 80 k 0) 24 t 0) nT nR nA := by
  rw [wI_comm _ _ _ (by omega)]
  exact ((h.jend hk ht hT2 h43 ho).m80 k 0 (by rw [uI_1, if_pos ⟨rfl, rfl⟩])).w55 t 0
/-! the loop in which a reader begins -/
theorem setB_ne {f : Nat → Nat} {k b : Nat} (h1 : b ≠ 38) (h2 : b ≠ 30) (i : Nat) : ∀ n, (setB M f k n).1 b i = M.1 b i
  | 0 => rfl
  | n + 1 => by
    show (uI (uI (setB M f k n) 38 _ _) 30 _ _).1 b i = _
    rw [uI_1, if_neg (fun z => h2 z.1), uI_1, if_neg (fun z => h1 z.1)]
    exact setB_ne h1 h2 i n
theorem setB_2 {f : Nat → Nat} {k : Nat} : ∀ n, (setB M f k n).2 = M.2
  | 0 => rfl
  | n + 1 => setB_2 n
theorem setB_30 {f : Nat → Nat} {k a : Nat} : ∀ n, (∀ i, i < n → ¬ f i = a) → (setB M f k n).1 30 a = M.1 30 a
  | 0, _ => rfl
  | n + 1, h => by
    show (uI (uI (setB M f k n) 38 _ _) 30 (f n) _).1 30 a = _
    rw [uI_1, if_neg (fun z => h n (by omega) z.2.symm), uI_1, if_neg (fun z => by omega)]
    exact setB_30 n (fun i hi => h i (by omega))
theorem setB_38 {f : Nat → Nat} {k x : Nat} : ∀ n, (setB M f k n).1 38 x = if 8 * k ≤ x ∧ x < 8 * k + n then nI (f (x - 8 * k)) else M.1 38 x
  | 0 => by rw [if_neg (by omega)]; rfl
  | n + 1 => by
    show (uI (uI (setB M f k n) 38 (8 * k + n) (nI (f n))) 30 (f n) 1).1 38 x = _
    rw [uI_1, if_neg (fun z => by omega), uI_1]
    by_cases e : x = 8 * k + n
    · rw [if_pos ⟨rfl, e⟩, if_pos (by omega), show x - 8 * k = n by omega]
    · rw [if_neg (fun z => e z.2), setB_38 n]
      by_cases q : 8 * k ≤ x ∧ x < 8 * k + n
      · rw [if_pos q, if_pos (by omega)]
      · rw [if_neg q, if_neg (by omega)]
theorem setB_1 {f : Nat → Nat} {k a : Nat} : ∀ n i, i < n → f i = a → (setB M f k n).1 30 a = 1
  | 0, i, h, _ => by omega
  | n + 1, i, h, e => by
    show (uI (uI (setB M f k n) 38 _ _) 30 (f n) _).1 30 a = _
    rw [uI_1]
    by_cases z : f n = a
    · rw [if_pos ⟨rfl, z.symm⟩]
    · rw [if_neg (fun y => z y.2.symm), uI_1, if_neg (fun y => by omega)]
      refine setB_1 n i ?_ e
      rcases Nat.lt_or_ge i n with q | q
      · exact q
      · exact absurd (by rw [← e, show i = n by omega]) z
theorem setB_or {f : Nat → Nat} {k a : Nat} : ∀ n, (setB M f k n).1 30 a = 1 ∨ (setB M f k n).1 30 a = M.1 30 a
  | 0 => Or.inr rfl
  | n + 1 => by
    show (uI (uI (setB M f k n) 38 _ _) 30 (f n) _).1 30 a = 1 ∨ (uI (uI (setB M f k n) 38 _ _) 30 (f n) _).1 30 a = _
    rw [uI_1, uI_1]
    by_cases z : a = f n
    · rw [if_pos ⟨rfl, z⟩]
      exact Or.inl rfl
    · rw [if_neg (fun y => z y.2), if_neg (fun y => by omega)]
      exact setB_or n
theorem sw_3 {c : HP} {r t i j : Nat} {f : Nat → Nat} : ∀ n, mI (swF c r t f n) 3 i j = if i = 5 ∧ j = r ∧ 0 < n then nI n else mI c 3 i j
  | 0 => by rw [if_neg (by omega)]; rfl
  | n + 1 => by
    rw [swF_s, mI_wI]
    by_cases e : i = 5 ∧ j = r
    · rw [if_pos ⟨rfl, e⟩, if_pos ⟨e.1, e.2, by omega⟩]
    · rw [if_neg (fun z => e z.2), if_neg (fun z => e ⟨z.1, z.2.1⟩), mI_wI, if_neg (by omega), cwC_3, mI_wI, if_neg (by omega), sw_3 n, if_neg (fun z => e ⟨z.1, z.2.1⟩)]
theorem sw_19 {c : HP} {r t i j : Nat} {f : Nat → Nat} : ∀ n, mI (swF c r t f n) 19 i j = if j = r ∧ i < n then nI (f i) else mI c 19 i j
  | 0 => by rw [if_neg (by omega)]; rfl
  | n + 1 => by
    rw [swF_s, mI_wI, if_neg (by omega), mI_wI]
    by_cases e : i = n ∧ j = r
    · rw [if_pos ⟨rfl, e⟩, if_pos ⟨e.2, by omega⟩, e.1]
    · rw [if_neg (fun z => e z.2), (cw_q _ _ _ _).I (fun z => by omega), mI_wI, if_neg (by omega), sw_19 n]
      by_cases q : j = r ∧ i < n
      · rw [if_pos q, if_pos ⟨q.1, by omega⟩]
      · rw [if_neg q, if_neg (fun z => q ⟨z.1, by have := z.2; rcases Nat.lt_or_ge i n with y | y; exact y; exact absurd ⟨by omega, z.1⟩ e⟩)]
theorem sw_13 {c : HP} {r t : Nat} {f : Nat → Nat} {n : Nat} (hn : 0 < n) : mI (swF c r t f n) 6 13 0 = -1 := by
  obtain ⟨m, rfl⟩ : ∃ m, n = m + 1 := ⟨n - 1, by omega⟩
  rw [swF_s, mI_wI, if_neg (by omega), mI_wI, if_neg (by omega), cwC_13]
theorem sw_loop {c : HP} {M : MD} {r t : Nat} {f : Nat → Nat} (hA : CA c M nA) (hW : CW c M nT nA) (hT2 : nT ≤ 12) (ht : t < nT) : ∀ n, (∀ i, i < n → f i < nA ∧ M.1 26 (f i) = nI t ∧ M.1 30 (f i) = 0) → (∀ i j, i < n → j < n → f i = f j → i = j) → CA (swF c r t f n) (setB M f r n) nA ∧ CW (swF c r t f n) (setB M f r n) nT nA
  | 0, _, _ => ⟨hA, hW⟩
  | n + 1, hf, hi => by
    obtain ⟨i1, i2⟩ := sw_loop hA hW hT2 ht n (fun i h => hf i (by omega)) (fun i j h g => hi i j (by omega) (by omega))
    obtain ⟨f1, f2, f3⟩ := hf n (by omega)
    have j1 : CA (swF c r t f n) (uI (setB M f r n) 38 (8 * r + n) (nI (f n))) nA := i1.fr (w := fun _ _ _ => False) (FRI.rf _ _).q (fun _ _ z => z) (fun _ => rfl) ((EK.rf _ _).w _ rfl) (fun _ => rfl)
    have j2 : CW (swF c r t f n) (uI (setB M f r n) 38 (8 * r + n) (nI (f n))) nT nA := i2.fr (w := fun _ _ _ => False) (FRI.rf _ _).q (fun _ => ⟨fun z => z, fun z => z, fun z => z, fun z => z⟩) ((EK.rf _ _).w _ rfl)
    have g26 : (uI (setB M f r n) 38 (8 * r + n) (nI (f n))).1 26 (f n) = nI t := by
      rw [uI_1, if_neg (by omega), setB_ne (by omega) (by omega)]
      exact f2
    have g30 : (uI (setB M f r n) 38 (8 * r + n) (nI (f n))).1 30 (f n) = 0 := by
      rw [uI_1, if_neg (by omega), setB_30 n (fun i h e => by have := hi i n (by omega) (by omega) e; omega)]
      exact f3
    obtain ⟨c0, c1, c2, c3, c4, -⟩ := j1 (f n) f1
    have k2 := j2.w (t := t) 1 f1 g26 hT2 ht c0 c4 (-1) (Or.inl ⟨rfl, g30, by decide⟩)
    have k1 := (j1.w17 (f n) 1).fr (cw_q (wI (swF c r t f n) 1 7 (f n) 1) (f n) t (-1)).q (fun i j z => by omega) (fun j => (cw_q _ _ _ _).J 1 9 j) (EK.rf _ _) (fun _ => rfl)
    have hF : FRI (fun a b _ => a = 19 ∨ (a = 3 ∧ b = 5)) (cwC (wI (swF c r t f n) 1 7 (f n) 1) (f n) t (-1)) (swF c r t f (n + 1)) := by
      rw [swF_s]
      exact ((FRI.rf _ _).w _ (Or.inl rfl)).w _ (Or.inr ⟨rfl, rfl⟩)
    exact ⟨k1.fr hF.q (fun i j z => by omega) (fun j => hF.J 1 9 j) (EK.rf _ _) (fun _ => rfl), k2.fr hF.q (fun j => ⟨fun z => by omega, fun z => by omega, fun z => by omega, fun z => by omega⟩) (EK.rf _ _)⟩
end ZC28
