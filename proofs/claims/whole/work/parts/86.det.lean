/-! The model's steps are one way only -/
section ZDET
variable {M : MD} {nT nR nA : Nat}
theorem min_det {p : Nat → Prop} {i j : Nat} (h1 : p i) (h2 : ∀ x, x < i → ¬ p x) (g1 : p j) (g2 : ∀ x, x < j → ¬ p x) : i = j := by
  rcases Nat.lt_trichotomy i j with q | q | q
  · exact absurd h1 (g2 i q)
  · exact q
  · exact absurd g1 (h2 j q)
theorem ChR_det (hT2 : nT ≤ 12) (hG : GA M nT nA) {y r r' : Int32} (h : ChR M y nA r) (g : ChR M y nA r') : r = r' := by
  have tp : ∀ k, k < nA → M.1 26 k = nI (tpN M k) := fun k hk => by
    obtain ⟨t, p, g1, g2, -⟩ := hG k hk
    unfold tpN
    rw [g2, ncl (N := 13) (by omega)]
  have top : ∀ i j, topP M y nA nA i → topP M y nA nA j → tpN M i = tpN M j := fun i j a b => by
    have h1 := a.2.2 j b.1 b.2.1
    have h2 := b.2.2 i a.1 a.2.1
    unfold betP at h1 h2
    rcases h1 with h1 | ⟨h1, h1'⟩ <;> rcases h2 with h2 | ⟨h2, h2'⟩
    · exact absurd (Int32.lt_trans h1 h2) Int32.lt_irrefl
    · rw [h2] at h1
      exact absurd h1 Int32.lt_irrefl
    · rw [h1] at h2
      exact absurd h2 Int32.lt_irrefl
    · omega
  have fst : ∀ i j, fstP M nA i → fstP M nA j → i = j := fun i j a b => by
    have h1 := a.2.2 j b.1 b.2.1
    have h2 := b.2.2 i a.1 a.2.1
    rcases h1 with h1 | ⟨h1, h1'⟩ <;> rcases h2 with h2 | ⟨h2, h2'⟩
    · exact absurd (Int32.lt_trans h1 h2) Int32.lt_irrefl
    · rw [h2] at h1
      exact absurd h1 Int32.lt_irrefl
    · rw [h1] at h2
      exact absurd h2 Int32.lt_irrefl
    · omega
  rcases h with ⟨k, k1, k2, k3, rfl⟩ | ⟨n1, h⟩ <;> rcases g with ⟨j, j1, j2, j3, rfl⟩ | ⟨m1, g⟩
  · rw [min_det (p := fun x => dueP M x) k2 k3 j2 j3]
  · exact absurd k2 (m1 k k1)
  · exact absurd j2 (n1 j j1)
  · rcases h with ⟨i, i1, i2, rfl⟩ | ⟨n2, h⟩ <;> rcases g with ⟨j, j1, j2, rfl⟩ | ⟨m2, g⟩
    · rw [tp i i1.1, tp j j1.1, top i j i1 j1]
    · exact absurd (m2 i i1) i2
    · exact absurd (n2 j j1) j2
    · rcases h with ⟨i, i1, i2, rfl⟩ | ⟨n3, rfl⟩ <;> rcases g with ⟨j, j1, j2, rfl⟩ | ⟨m3, rfl⟩
      · rw [fst i j i1 j1]
      · exact absurd i2 (m3 i i1)
      · exact absurd j2 (n3 j j1)
      · rfl
theorem ajR_det (hT2 : nT ≤ 12) (hG : GA M nT nA) {k : Nat} {A B : MD} (h : ajR M k nR nA A) (g : ajR M k nR nA B) : A = B := by
  rcases h with ⟨h0, h⟩ | ⟨h0, rfl⟩ <;> rcases g with ⟨g0, g⟩ | ⟨g0, rfl⟩
  · rcases h with ⟨i, i1, i2, i3, rfl⟩ | ⟨n1, h⟩ <;> rcases g with ⟨j, j1, j2, j3, rfl⟩ | ⟨m1, g⟩
    · rw [min_det (p := fun x => backP M k x) i2 i3 j2 j3]
    · exact absurd i2 (m1 i i1)
    · exact absurd j2 (n1 j j1)
    · rcases h with ⟨n2, rfl⟩ | ⟨r, r1, r2, r3, ch, c1, c2⟩ <;> rcases g with ⟨m2, rfl⟩ | ⟨s, s1, s2, s3, dh, d1, d2⟩
      · rfl
      · exact absurd s2 (n2 s s1)
      · exact absurd r2 (m2 r r1)
      · obtain rfl := min_det (p := fun x => M.1 36 x = 0) r2 r3 s2 s3
        obtain rfl := ChR_det hT2 hG c1 d1
        rcases c2 with ⟨t, t1, t2, t3, rfl⟩ | ⟨n3, rfl⟩ <;> rcases d2 with ⟨u, u1, u2, u3, rfl⟩ | ⟨m3, rfl⟩
        · rw [t2, nI_eq_iff] at u2
          rw [u2]
        · exact absurd t3 (m3 t t1 t2)
        · exact absurd u3 (n3 u u1 u2)
        · rfl
  · exact absurd h0 g0
  · exact absurd g0 h0
  · rfl
theorem T1_det (hT2 : nT ≤ 12) (hR2 : nR ≤ 3) (hA2 : nA ≤ 150) (hM : GMI M nT nR nA) {e e' : Int32} {A B : MD} (h : T1 nR nA M e A) (g : T1 nR nA M e' B) : e = e' ∧ A = B := by
  obtain ⟨rfl, B1, b1, C1, c1, rfl⟩ := h
  obtain ⟨rfl, B2, b2, C2, c2, rfl⟩ := g
  have hTI := GMI.ti hT2 hR2 hA2
  have h4 := TI_ks hTI (hTI.2.1 _ 1 (by omega) (hTI.2.1 _ 0 (by omega) hM)) nR (Nat.le_refl _)
  obtain rfl := ajR_det hT2 h4.2.1 b1 b2
  have h5 := hTI.2.2.2.1 _ 0 _ (by omega) h4 b1
  obtain rfl := ajR_det hT2 h5.2.1 c1 c2
  exact ⟨rfl, rfl⟩
theorem Tn_det (hT2 : nT ≤ 12) (hR2 : nR ≤ 3) (hA2 : nA ≤ 150) (hM : GMI M nT nR nA) : ∀ (n : Nat) (e e' : Int32) (A B : MD), Tn nR nA M n e A → Tn nR nA M n e' B → e = e' ∧ A = B
  | 0, _, _, _, _, h, g => ⟨h.1.trans g.1.symm, h.2.trans g.2.symm⟩
  | n + 1, _, _, _, _, h, g => by
    obtain ⟨e1, e2, M1, q1, q2, rfl⟩ := h
    obtain ⟨f1, f2, M2, p1, p2, rfl⟩ := g
    obtain ⟨rfl, rfl⟩ := Tn_det hT2 hR2 hA2 hM n _ _ _ _ q1 p1
    obtain ⟨rfl, rfl⟩ := T1_det hT2 hR2 hA2 (TI_n (GMI.ti hT2 hR2 hA2) hM n _ _ q1) q2 p2
    exact ⟨rfl, rfl⟩
end ZDET
