/-! A good model; the asks of an order differ -/
def GJ (M : MD) (nT nR : Nat) : Prop := ∀ k, k < 2 → ¬ M.1 43 k = -1 → ∃ t r, t < nT ∧ r < nR ∧ M.1 43 k = nI t ∧ M.1 46 k = nI r ∧ ((M.1 81 k = 0 ∧ M.1 80 k = 0 ∧ M.1 37 r = nI t ∧ (M.1 36 r = 3 ∨ M.1 36 r = 4)) ∨ (M.1 81 k = 0 ∧ M.1 80 k = 1 ∧ ∀ j, j < nR → ¬ M.1 37 j = nI t) ∨ (M.1 81 k = 1 ∧ (M.1 80 k = 0 ∨ M.1 80 k = 1) ∧ M.1 37 r = nI t ∧ M.1 36 r = 1))
def GT (M : MD) (nT nR : Nat) : Prop := (∀ i j, i < nR → j < nR → i ≠ j → M.1 37 i = M.1 37 j → M.1 37 i = -1) ∧ (M.1 43 0 = M.1 43 1 → M.1 43 0 = -1) ∧ ∀ i t, i < nR → t < nT → M.1 37 i = nI t → M.1 24 t = 0 → M.1 43 0 = nI t ∨ M.1 43 1 = nI t
def GI (M : MD) (nR : Nat) : Prop := ∀ k, k < nR → (¬ M.1 36 k = 2 → wkN M k = 0) ∧ (M.1 36 k = 2 → ∃ v, v < 3 ∧ M.1 41 k = nI v - 1) ∧ ∀ i, i < wkN M k → M.1 26 (wkL M k i) = M.1 37 k ∧ M.1 30 (wkL M k i) = 1 ∧ ∀ j, j < i → ¬ wkL M k j = wkL M k i
def GD (M : MD) (nA : Nat) : Prop := ∀ k, k < nA → (M.1 30 k = 0 ∨ M.1 30 k = 1) → M.1 31 k = -1
def GSp (M : MD) : Prop := ¬ M.1 43 0 = -1 → ¬ M.1 43 1 = -1 → hi3 (M.1 42 0) (goalF M 0) (M.1 45 0) < lo3 (M.1 42 1) (goalF M 1) (M.1 45 1)
def GS (M : MD) (nT nR nA : Nat) : Prop := M.1 7 26 = nI nR ∧ M.1 7 8 = nI nA ∧ M.1 7 1 = nI nT ∧ (∀ t, t < nT → ∃ h, h < 1000 ∧ M.1 20 t = nI h) ∧ (∀ k, k < nR → ∃ h, h < 1000 ∧ M.1 35 k = nI h) ∧ -1000 ≤ M.1 7 10 ∧ ∀ t, t < nT → ∃ p, 0 < p ∧ p ≤ 60 ∧ M.1 22 t = nI p
def GU (M : MD) (nT nR nA : Nat) : Prop := (∀ t, nT ≤ t → M.1 23 t = 0 ∧ M.1 24 t = 0) ∧ (∀ i, 60 * nT ≤ i → M.2 91 i = 0) ∧ (∀ k, nA ≤ k → M.2 92 k = 0) ∧ ∀ k, nR ≤ k → M.1 39 k = 0 ∧ M.1 40 k = 0
def GMI (M : MD) (nT nR nA : Nat) : Prop := GS M nT nR nA ∧ GA M nT nA ∧ GH M nT ∧ GW M nR nA ∧ GR M nR nT ∧ GJ M nT nR ∧ GT M nT nR ∧ GI M nR ∧ GD M nA ∧ GSp M ∧ GU M nT nR nA
/-- an order has no ask twice -/
theorem VS_nd {n : Nat} {fr to : Nat → Nat} {wt : Bool} : ∀ (r u h v : Nat), lft u n = r → (VS n fr to wt r u h v).2.Nodup
  | 0, u, h, v, _ => by simp [VS]
  | r + 1, u, h, v, hl => by
    rw [VS_s]
    obtain ⟨x, hx⟩ := fm_some (fr := fr) (to := to) (wt := wt) (h := h) (v := v) hl
    rw [hx]
    obtain ⟨i, hi, hc⟩ := fm_mem hx
    unfold cnd at hc
    split at hc
    · cases hc
    · rename_i hb
      cases hc
      have hb' : u.testBit i = false := by simpa using hb
      have h3 := lft_s hb' (n := n)
      rw [if_pos hi] at h3
      have h4 : lft (u + 2 ^ i) n = r := by omega
      show (i :: _).Nodup
      refine List.nodup_cons.mpr ⟨fun z => ?_, VS_nd r _ _ _ h4⟩
      have := ((VS_len (n := n) (fr := fr) (to := to) (wt := wt) r (u + 2 ^ i) (to i) (wyN (fr i) (to i) h v) h4).2 i z).2
      rw [bit_add hb'] at this
      simp at this
theorem gl_nd (M : MD) (t : Nat) : ∀ k, (gl M t k).Nodup
  | 0 => by simp [gl]
  | k + 1 => by
    have h := gl_nd M t k
    unfold gl
    split
    · rw [List.nodup_append]
      refine ⟨h, by simp, fun a ha b hb e => ?_⟩
      rw [List.mem_singleton] at hb
      have := (gl_mem M t k a ha).1
      omega
    · exact h
theorem getD_inj {l : List Nat} (h : l.Nodup) {i j : Nat} (hi : i < l.length) (hj : j < l.length) (e : l.getD i 0 = l.getD j 0) : i = j := by
  rw [List.getD_eq_getElem?_getD, List.getD_eq_getElem?_getD, List.getElem?_eq_getElem hi, List.getElem?_eq_getElem hj] at e
  have e : some l[i] = some l[j] := congrArg some e
  rcases Nat.lt_trichotomy i j with q | q | q
  · exact absurd (Option.some.inj e) (List.pairwise_iff_getElem.mp h i j hi hj q)
  · exact q
  · exact absurd (Option.some.inj e).symm (List.pairwise_iff_getElem.mp h j i hj hi q)
theorem oS_inj {M : MD} {t nA i j : Nat} (hi : i < (gl M t nA).length) (hj : j < (gl M t nA).length) (e : oS M t nA i = oS M t nA j) : i = j := by
  have hO := oV_len (M := M) (t := t) (nA := nA) (wt := false)
  have hi2 : i < (oV M t nA false).2.length := by rw [hO.1]; exact hi
  have hj2 : j < (oV M t nA false).2.length := by rw [hO.1]; exact hj
  have hm : ∀ x, x < (oV M t nA false).2.length → (oV M t nA false).2.getD x 0 < (gl M t nA).length := fun x hx => hO.2 _ (by
    rw [List.getD_eq_getElem?_getD, List.getElem?_eq_getElem hx]
    exact List.getElem_mem hx)
  have e1 := getD_inj (gl_nd M t nA) (hm i hi2) (hm j hj2) e
  exact getD_inj (VS_nd (gl M t nA).length 0 (hdN M t) 1 (lft_all _)) hi2 hj2 e1
/-! counting when one thing changes -/
theorem cn_at {p q : Nat → Bool} {a : Nat} (h : ∀ k, k ≠ a → p k = q k) (hp : p a = true) (hq : q a = false) : ∀ {n : Nat}, cn p n = cn q n + (if a < n then 1 else 0)
  | 0 => rfl
  | n + 1 => by
    have ih := cn_at h hp hq (n := n)
    show cn p n + _ = cn q n + _ + _
    rw [ih]
    by_cases e : n = a
    · subst e
      rw [hp, hq, if_neg (by omega : ¬ n < n), if_pos (by omega : n < n + 1)]
      simp
    · rw [h n e]
      by_cases z : a < n
      · rw [if_pos z, if_pos (by omega : a < n + 1)]
        omega
      · rw [if_neg z, if_neg (by omega : ¬ a < n + 1)]
        omega
theorem sm_at {f g : Nat → Int32} {a : Nat} (h : ∀ k, k ≠ a → f k = g k) : ∀ {n : Nat}, a < n → sm f n = sm g n + (f a - g a)
  | 0, z => by omega
  | n + 1, z => by
    show sm f n + f n = sm g n + g n + _
    by_cases e : n = a
    · subst e
      rw [sm_cong (g := g) n (fun k hk => h k (by omega))]
      grind
    · rw [sm_at h (show a < n by omega), h n e]
      grind
/-! what waits, as one ask begins or ends to wait -/
section ZC27
variable {c : HP} {M : MD} {nT nR nA : Nat}
theorem CA.w17 (h : CA c M nA) (a : Nat) (x : Int32) : CA (wI c 1 7 a x) (uI M 30 a x) nA := fun k hk => by
  obtain ⟨h0, h1, h2, h3, h4, h5, h6, h7, h8, h9⟩ := h k hk
  rw [show fromF (uI M 30 a x) k = fromF M k from rfl, show toF (uI M 30 a x) k = toF M k from rfl]
  simp only [mI_wI, mJ_wI, mP_wI, mL_wI, mA_wI, mI_wJ, mJ_wJ, mP_wJ, mL_wJ, mA_wJ, uI_1, uI_2, uJ_1, uJ_2, Nat.reduceEqDiff, false_and, and_false, true_and, and_true, reduceIte]
  exact ⟨h0, h1, h2, h3, h4, h5, h6, by rw [h7], h8, h9⟩
theorem cw_q (c : HP) (k t : Nat) (b : Int32) : FRI (fun a i j => (a = 6 ∧ 13 ≤ i ∧ i ≤ 15) ∨ (a = 5 ∧ 7 ≤ i)) c (cwC c k t b) := cw_fr (FRI.rf _ c) k t b (Or.inl ⟨rfl, by omega, by omega⟩) (Or.inl ⟨rfl, by omega, by omega⟩) (Or.inl ⟨rfl, by omega, by omega⟩) (Or.inr ⟨rfl, by omega⟩) (Or.inr ⟨rfl, by omega⟩)
theorem cwC_13 (c : HP) (k t : Nat) (b : Int32) : mI (cwC c k t b) 6 13 0 = -1 := by
  unfold cwC
  split <;> simp only [mI_wI, mJ_wI, mP_wI, mL_wI, mA_wI, mI_wJ, mJ_wJ, mP_wJ, mL_wJ, mA_wJ, uI_1, uI_2, uJ_1, uJ_2, Nat.reduceEqDiff, false_and, and_false, true_and, and_true, reduceIte]
/-- from state y to state x, one of both 0 -/
theorem CW.w (h : CW c M nT nA) {a t : Nat} (x : Int32) (ha : a < nA) (h26 : M.1 26 a = nI t) (hT2 : nT ≤ 12) (ht : t < nT) (c0 : mI c 1 0 a = M.1 25 a) (c4 : mI c 1 4 a = M.1 29 a) (b : Int32) (hx : (b = -1 ∧ M.1 30 a = 0 ∧ ¬ x = 0) ∨ (b = 1 ∧ ¬ M.1 30 a = 0 ∧ x = 0)) : CW (cwC (wI c 1 7 a x) a t b) (uI M 30 a x) nT nA := by
  obtain ⟨h1, h2, h3⟩ := h
  have key : ∀ (p q : Nat → Bool), (∀ k, k ≠ a → p k = q k) → (b = -1 → p a = true ∧ q a = false) → (b = 1 → p a = false ∧ q a = true) → nI (cn p nA) + b = nI (cn q nA) := by
    intro p q g1 g2 g3
    rcases hx with ⟨rfl, -, -⟩ | ⟨rfl, -, -⟩
    · have := cn_at g1 (g2 rfl).1 (g2 rfl).2 (n := nA)
      rw [this, if_pos ha, ← nI_1]
      grind
    · have := cn_at (p := q) (q := p) (fun k hk => (g1 k hk).symm) (g3 rfl).2 (g3 rfl).1 (n := nA)
      rw [this, if_pos ha, ← nI_1]
  have off : ∀ k, k ≠ a → (uI M 30 a x).1 30 k = M.1 30 k := fun k hk => by rw [uI_1, if_neg (fun z => hk z.2)]
  have on_ : (uI M 30 a x).1 30 a = x := by rw [uI_1, if_pos ⟨rfl, rfl⟩]
  have e25 : ∀ k, (uI M 30 a x).1 25 k = M.1 25 k := fun _ => rfl
  have e26 : ∀ k, (uI M 30 a x).1 26 k = M.1 26 k := fun _ => rfl
  have e29 : ∀ k, (uI M 30 a x).1 29 k = M.1 29 k := fun _ => rfl
  have w0 : mI (wI c 1 7 a x) 1 0 a = M.1 25 a := c0
  have w4 : mI (wI c 1 7 a x) 1 4 a = M.1 29 a := c4
  have z0 : b = -1 → M.1 30 a = 0 ∧ ¬ x = 0 := fun e => by
    rcases hx with ⟨-, q⟩ | ⟨q, -⟩
    · exact q
    · rw [e] at q
      exact absurd q (by decide)
  have z1 : b = 1 → ¬ M.1 30 a = 0 ∧ x = 0 := fun e => by
    rcases hx with ⟨q, -⟩ | ⟨-, q⟩
    · rw [e] at q
      exact absurd q (by decide)
    · exact q
  have h3' : ∀ s, s < nT → (M.1 25 a = 3 ∨ ¬ s = t) → cn (wcl (uI M 30 a x) s) nA = cn (wcl M s) nA ∧ sm (crd (uI M 30 a x) s) nA = sm (crd M s) nA := by
    intro s hs hq
    have hne : ¬ (M.1 26 a = nI s ∧ ¬ M.1 25 a = 3) := by
      rw [h26]
      intro z
      rcases hq with q | q
      · exact z.2 q
      · exact q (by have := z.1; rw [nI_eq_iff] at this; exact this.symm)
    refine ⟨cn_cong nA (fun k _ => ?_), sm_cong nA (fun k _ => ?_)⟩
    · unfold wcl
      rw [e25, e26]
      by_cases e : k = a
      · subst e
        rw [decide_eq_decide]
        exact ⟨fun z => absurd ⟨z.1, z.2.2⟩ hne, fun z => absurd ⟨z.1, z.2.2⟩ hne⟩
      · rw [off k e]
    · unfold crd
      rw [e25, e26, e29]
      by_cases e : k = a
      · subst e
        rw [if_neg (fun z => hne ⟨z.1, z.2.2⟩), if_neg (fun z => hne ⟨z.1, z.2.2⟩)]
      · rw [off k e]
  unfold cwC
  rw [w0, w4]
  by_cases h25 : M.1 25 a = 3
  · rw [if_pos h25]
    refine ⟨?_, ?_, fun s hs => ?_⟩
    · simp only [mI_wI, mJ_wI, mP_wI, mL_wI, mA_wI, mI_wJ, mJ_wJ, mP_wJ, mL_wJ, mA_wJ, uI_1, uI_2, uJ_1, uJ_2, Nat.reduceEqDiff, false_and, and_false, true_and, and_true, reduceIte]
      rw [h1]
      congr 1
      refine cn_cong nA (fun k _ => ?_)
      by_cases e : k = a
      · subst e
        rw [decide_eq_decide]
        exact ⟨fun z => absurd h25 z.2, fun z => absurd h25 z.2⟩
      · simp only [e, and_false, reduceIte]
    · simp only [mI_wI, mJ_wI, mP_wI, mL_wI, mA_wI, mI_wJ, mJ_wJ, mP_wJ, mL_wJ, mA_wJ, uI_1, uI_2, uJ_1, uJ_2, Nat.reduceEqDiff, false_and, and_false, true_and, and_true, reduceIte]
      rw [h2]
      refine key _ _ (fun k hk => ?_) (fun e => ?_) (fun e => ?_)
      · simp only [hk, and_false, reduceIte]
      · obtain ⟨y1, y2⟩ := z0 e
        simp [y1, y2, h25]
      · obtain ⟨y1, y2⟩ := z1 e
        simp [y1, y2, h25]
    · simp only [mI_wI, mJ_wI, mP_wI, mL_wI, mA_wI, mI_wJ, mJ_wJ, mP_wJ, mL_wJ, mA_wJ, uI_1, uI_2, uJ_1, uJ_2, Nat.reduceEqDiff, false_and, and_false, true_and, and_true, reduceIte]
      rw [(h3' s hs (Or.inl h25)).1, (h3' s hs (Or.inl h25)).2]
      exact h3 s hs
  · rw [if_neg h25]
    refine ⟨?_, ?_, fun s hs => ?_⟩
    · simp only [mI_wI, mJ_wI, mP_wI, mL_wI, mA_wI, mI_wJ, mJ_wJ, mP_wJ, mL_wJ, mA_wJ, uI_1, uI_2, uJ_1, uJ_2, Nat.reduceEqDiff, false_and, and_false, true_and, and_true, reduceIte]
      rw [h1]
      refine key _ _ (fun k hk => ?_) (fun e => ?_) (fun e => ?_)
      · simp only [hk, and_false, reduceIte]
      · obtain ⟨y1, y2⟩ := z0 e
        simp [y1, y2, h25]
      · obtain ⟨y1, y2⟩ := z1 e
        simp [y1, y2, h25]
    · simp only [mI_wI, mJ_wI, mP_wI, mL_wI, mA_wI, mI_wJ, mJ_wJ, mP_wJ, mL_wJ, mA_wJ, uI_1, uI_2, uJ_1, uJ_2, Nat.reduceEqDiff, false_and, and_false, true_and, and_true, reduceIte]
      rw [h2]
      congr 1
      refine cn_cong nA (fun k _ => ?_)
      by_cases e : k = a
      · subst e
        rw [decide_eq_decide]
        exact ⟨fun z => absurd z.2 h25, fun z => absurd z.2 h25⟩
      · simp only [e, and_false, reduceIte]
    · simp only [mI_wI, mJ_wI, mP_wI, mL_wI, mA_wI, mI_wJ, mJ_wJ, mP_wJ, mL_wJ, mA_wJ, uI_1, uI_2, uJ_1, uJ_2, Nat.reduceEqDiff, false_and, and_false, true_and, and_true, reduceIte]
      by_cases hst : s = t
      · subst hst
        obtain ⟨g1, g2⟩ := h3 s hs
        rw [if_pos rfl, if_pos rfl, g1, g2]
        refine ⟨?_, ?_⟩
        · refine key _ _ (fun k hk => ?_) (fun e => ?_) (fun e => ?_)
          · unfold wcl
            rw [e25, e26, off k hk]
          · obtain ⟨y1, y2⟩ := z0 e
            unfold wcl
            rw [e25, e26, on_]
            simp [y1, y2, h25, h26]
          · obtain ⟨y1, y2⟩ := z1 e
            unfold wcl
            rw [e25, e26, on_]
            simp [y1, y2, h25, h26]
        · rw [sm_at (f := crd (uI M 30 a x) s) (g := crd M s) (a := a) (fun k hk => by unfold crd; rw [e25, e26, e29, off k hk]) ha]
          congr 1
          unfold crd
          rw [e25, e26, e29, on_]
          obtain ⟨w, hw⟩ : ∃ w : Int32, w = (if M.1 25 a = 4 then 100 else 10) - M.1 29 a := ⟨_, rfl⟩
          rw [← hw]
          rcases hx with ⟨rfl, y1, y2⟩ | ⟨rfl, y1, y2⟩
          · rw [if_neg (fun z => y2 z.2.1), if_pos ⟨h26, y1, h25⟩]
            grind
          · rw [if_pos ⟨h26, y2, h25⟩, if_neg (fun z => y1 z.2.1)]
            grind
      · rw [if_neg hst, if_neg hst, (h3' s hs (Or.inr hst)).1, (h3' s hs (Or.inr hst)).2]
        exact h3 s hs
end ZC27
