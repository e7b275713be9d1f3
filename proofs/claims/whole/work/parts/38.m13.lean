/-! The model: what a tick does; all of it hangs on no scratch -/
theorem goalF_sc {M M' : MD} (h : SC M M') (k : Nat) : goalF M' k = goalF M k := by unfold goalF; rw [h.r80, h.r44, h.r45]
theorem stepF_sc {M M' : MD} (h : SC M M') (k : Nat) : stepF M' k = stepF M k := by unfold stepF; rw [goalF_sc h, h.r42]
theorem pushM_sc {M M' : MD} (h : SC M M') (k : Nat) : SC (pushM M k) (pushM M' k) := by
  unfold pushM
  rw [stepF_sc h, h.r42, h.r42, h.s41]
  split
  · exact (h.u 42 _ _).u 7 41 _
  · exact h
theorem goM_sc {M M' : MD} (h : SC M M') (k : Nat) : SC (goM M k) (goM M' k) := by
  unfold goM
  rw [stepF_sc h, h.r42, (pushM_sc h k).s41]
  exact ((pushM_sc h k).u 42 _ _).u 7 41 _
theorem takeM_sc {M M' : MD} (h : SC M M') (k t r : Nat) : SC (takeM M k t r) (takeM M' k t r) := by
  unfold takeM
  rw [h.r81, h.r36]
  split
  · split
    · exact ((h.u 80 k 1).u 24 t 1).u 37 r (-1)
    · exact (((h.u 80 k 1).u 24 t 1).u 37 r (-1)).u 36 r 0
  · exact (h.u 80 k 1).u 24 t 1
theorem setB_fg {M : MD} {f g : Nat → Nat} {k : Nat} : ∀ n, (∀ i, i < n → f i = g i) → setB M f k n = setB M g k n
  | 0, _ => rfl
  | n + 1, h => by
    show uI (uI (setB M f k n) _ _ _) _ _ _ = uI (uI (setB M g k n) _ _ _) _ _ _
    rw [setB_fg n (fun i hi => h i (by omega)), h n (by omega)]
theorem beginsM_sc {M M' : MD} (h : SC M M') (k t nA : Nat) : SC (beginsM M k t nA) (beginsM M' k t nA) := by
  unfold beginsM
  rw [gl_sc h, setB_fg (f := oS M' t nA) (g := oS M t nA) _ (fun i _ => oS_sc h t nA i)]
  exact setB_sc ((((((h.u 36 k 2).u 37 k _).u 24 t 2).u 39 k _).u 40 k 0).u 41 k 0) _ k _
theorem putM_sc {M M' : MD} (h : SC M M') (k t r nA : Nat) : SC (putM M k t r nA) (putM M' k t r nA) := by
  unfold putM
  rw [h.r81]
  split
  · exact ((h.u 43 k (-1)).u 80 k 0).u 24 t 0
  · exact beginsM_sc ((h.u 43 k (-1)).u 80 k 0) r t nA
theorem movesM_sc {M M' : MD} (h : SC M M') (k t r nA : Nat) : SC (movesM M k t r nA) (movesM M' k t r nA) := by
  unfold movesM
  rw [goalF_sc h, h.r42, h.r80]
  split
  · split
    · exact takeM_sc h k t r
    · exact putM_sc h k t r nA
  · exact goM_sc h k
theorem wkN_sc {M M' : MD} (h : SC M M') (k : Nat) : wkN M' k = wkN M k := by unfold wkN; rw [h.r39]
theorem wkL_sc {M M' : MD} (h : SC M M') (k i : Nat) : wkL M' k i = wkL M k i := by unfold wkL; rw [h.r38]
theorem costW_sc {M M' : MD} (h : SC M M') (k a t : Nat) : costW M' k a t = costW M k a t := by unfold costW; rw [fromF_sc h, toF_sc h, h.r23, h.r41]
theorem endA_sc {M M' : MD} (h : SC M M') (k a t : Nat) : SC (endA M k a t) (endA M' k a t) := by
  unfold endA
  rw [h.r40, fromF_sc h, toF_sc h, h.r23, h.r41, h.r21, h.s9]
  exact ((((h.u 40 k _).u 41 k _).u 23 t _).u 30 a _).u 31 a _
theorem sl_cong {f g : Nat → Int64} (h : ∀ i, f i = g i) (a n : Nat) : sl f a n = sl g a n := by rw [show f = g from funext h]
theorem endR_sc {M M' N N' : MD} (h : SC M M') (g : SC N N') (a t : Nat) : SC (endR M a t N) (endR M' a t N') := by
  unfold endR
  rw [h.r21, h.r25, h.r28, h.r91, frN_sc h, toN_sc h, sl_cong (f := M'.2 91) (g := M.2 91) (fun i => h.r91 i)]
  split
  · exact g.uj 92 a 0
  · split
    · exact (g.uj 91 _ _).uj 92 a _
    · exact g.uj 92 a _
theorem shM_sc {M M' : MD} (h : SC M M') (k : Nat) : ∀ n, SC (shM M k n) (shM M' k n)
  | 0 => h
  | n + 1 => by
    show SC (uI (shM M k n) _ _ _) (uI (shM M' k n) _ _ _)
    rw [(shM_sc h k n).r38]
    exact (shM_sc h k n).u 38 _ _
theorem endP_sc {M M' : MD} (h : SC M M') (k a t n : Nat) : SC (endP M k a t n) (endP M' k a t n) := ((endR_sc h (endA_sc h k a t) a t).u 40 k 0).u 39 k _
theorem endM_sc {M M' : MD} (h : SC M M') (k a t n : Nat) : SC (endM M k a t n) (endM M' k a t n) := by
  unfold endM
  split
  · exact (shM_sc (endP_sc h k a t n) k n).u 36 k 3
  · exact shM_sc (endP_sc h k a t n) k n
theorem worF_sc {M M' : MD} (h : SC M M') (t : Nat) (y : Int32) (nA : Nat) : worF M' t y nA = worF M t y nA := by
  unfold worF
  rw [h.r20, sm_cong nA (f := worT M' (nI t)) (g := worT M (nI t)) (fun k _ => by unfold worT; rw [h.r26, h.r30, h.r25, h.s9, h.r29])]
theorem mayF_sc {M M' : MD} (h : SC M M') (k : Nat) (fr to : Int32) : mayF M' k fr to = mayF M k fr to := by unfold mayF; rw [h.r43, h.r42, h.r42, goalF_sc h, h.r45]
theorem tpN_sc {M M' : MD} (h : SC M M') (k : Nat) : tpN M' k = tpN M k := by unfold tpN; rw [h.r26]
theorem hmP_sc {M M' : MD} (h : SC M M') (t : Nat) : hmP M' t = hmP M t := by unfold hmP; rw [h.r24, h.r43, h.r43]
theorem callP_sc {M M' : MD} (h : SC M M') (k : Nat) : callP M' k = callP M k := by unfold callP; rw [h.r30, h.r25, hmP_sc h, tpN_sc h]
theorem dueP_sc {M M' : MD} (h : SC M M') (k : Nat) : dueP M' k = dueP M k := by unfold dueP; rw [callP_sc h, h.s11, h.s9, h.r29]
theorem scrP_sc {M M' : MD} (h : SC M M') (k : Nat) : scrP M' k = scrP M k := by unfold scrP; rw [h.r30, h.r25, hmP_sc h, tpN_sc h]
theorem betP_sc {M M' : MD} (h : SC M M') (y : Int32) (nA t t' : Nat) : betP M' y nA t t' = betP M y nA t t' := by unfold betP; rw [worF_sc h, worF_sc h]
theorem topP_sc {M M' : MD} (h : SC M M') (y : Int32) (nA n i : Nat) : topP M' y nA n i = topP M y nA n i := by unfold topP; simp only [callP_sc h, betP_sc h, tpN_sc h]
theorem fstP_sc {M M' : MD} (h : SC M M') (n i : Nat) : fstP M' n i = fstP M n i := by unfold fstP; simp only [scrP_sc h, h.r27]
theorem scrOk_sc {M M' : MD} (h : SC M M') (nA i : Nat) : scrOk M' nA i = scrOk M nA i := by unfold scrOk; simp only [h.r30, h.r25, h.r27, h.s9]
theorem ChR_sc {M M' : MD} (h : SC M M') (y : Int32) (nA : Nat) (r : Int32) : ChR M' y nA r = ChR M y nA r := by
  unfold ChR
  simp only [dueP_sc h, h.r26, topP_sc h, worF_sc h, tpN_sc h, h.s10, fstP_sc h, scrOk_sc h]
theorem jobM_sc {M M' : MD} (h : SC M M') (k : Nat) (t fr to r br : Int32) : SC (jobM M k t fr to r br) (jobM M' k t fr to r br) := (((((h.u 43 k t).u 80 k 0).u 44 k fr).u 45 k to).u 46 k r).u 81 k br
theorem rtN_sc {M M' : MD} (h : SC M M') (k : Nat) : rtN M' k = rtN M k := by unfold rtN; rw [h.r37]
theorem isBk_sc {M M' : MD} (h : SC M M') (k : Nat) : isBk M' k = isBk M k := by unfold isBk; rw [h.r36, h.r37]
theorem backP_sc {M M' : MD} (h : SC M M') (k i : Nat) : backP M' k i = backP M k i := by unfold backP; rw [isBk_sc h, h.r43, h.r43, h.r37, mayF_sc h, h.r35, h.r20, rtN_sc h]
theorem AjR_sc {M M' N : MD} (h : SC M M') {k nR nA : Nat} (q : AjR M' k nR nA N) : ∃ N0, AjR M k nR nA N0 ∧ SC N0 N := by
  rcases q with ⟨i, h1, h2, h3, h4⟩ | ⟨h1, ⟨h2, h3⟩ | ⟨r, h2, h3, h4, ch, h5, ⟨t, h6, h7, h8, h9⟩ | ⟨h6, h7⟩⟩⟩
  · refine ⟨_, Or.inl ⟨i, h1, by rw [backP_sc h] at h2; exact h2, fun j hj => by have := h3 j hj; rw [backP_sc h] at this; exact this, rfl⟩, ?_⟩
    rw [h4, h.r37, h.r35, h.r20, rtN_sc h]
    exact jobM_sc h _ _ _ _ _ _
  · refine ⟨M, Or.inr ⟨fun j hj => by have := h1 j hj; rw [backP_sc h] at this; exact this, Or.inl ⟨fun j hj => by have := h2 j hj; rw [h.r36] at this; exact this, rfl⟩⟩, ?_⟩
    rw [h3]
    exact h
  · rw [ChR_sc h, h.r35] at h5
    rw [mayF_sc h, h.r20, h.r35] at h8
    refine ⟨_, Or.inr ⟨fun j hj => by have := h1 j hj; rw [backP_sc h] at this; exact this, Or.inr ⟨r, h2, by rw [h.r36] at h3; exact h3, fun j hj => by have := h4 j hj; rw [h.r36] at this; exact this, ch, h5, Or.inl ⟨t, h6, h7, h8, rfl⟩⟩⟩, ?_⟩
    rw [h9]
    unfold brM
    rw [h.r20, h.r35]
    exact ((jobM_sc h _ _ _ _ _ _).u 36 r 1).u 37 r _
  · rw [ChR_sc h, h.r35] at h5
    refine ⟨M, Or.inr ⟨fun j hj => by have := h1 j hj; rw [backP_sc h] at this; exact this, Or.inr ⟨r, h2, by rw [h.r36] at h3; exact h3, fun j hj => by have := h4 j hj; rw [h.r36] at this; exact this, ch, h5, Or.inr ⟨fun t ht e => ?_, rfl⟩⟩⟩, ?_⟩
    · have := h6 t ht e
      rw [mayF_sc h, h.r20, h.r35] at this
      exact this
    · rw [h7]
      exact h
theorem GW_sc {M M' : MD} (h : SC M M') {nR nA : Nat} (g : GW M nR nA) : GW M' nR nA := fun k hk => by
  rw [h.r39, wkN_sc h]
  refine ⟨(g k hk).1, (g k hk).2.1, fun i hi => ?_⟩
  rw [h.r38, wkL_sc h]
  exact (g k hk).2.2 i hi
theorem GR_sc {M M' : MD} (h : SC M M') {nR nT : Nat} (g : GR M nR nT) : GR M' nR nT := fun k hk => by
  rw [h.r37, h.r36, rtN_sc h]
  exact g k hk
/-- the steps of a tick -/
def mvM (M : MD) (nA k : Nat) : MD := if M.1 43 k = -1 then M else movesM M k (M.1 43 k).toNatClampNeg (M.1 46 k).toNatClampNeg nA
def wkM (M : MD) (k : Nat) : MD := if M.1 36 k = 2 then (if wkN M k = 0 then uI M 36 k 3 else if costW M k (wkL M k 0) (rtN M k) ≤ M.1 40 k + 1 then endM M k (wkL M k 0) (rtN M k) (wkN M k - 1) else uI M 40 k (M.1 40 k + 1)) else M
def wkE (M : MD) (k : Nat) : Int32 := if M.1 36 k = 2 then (if wkN M k = 0 then 0 else if costW M k (wkL M k 0) (rtN M k) ≤ M.1 40 k + 1 then 1 else 0) else 0
theorem mvM_sc {M M' : MD} (h : SC M M') (nA k : Nat) : SC (mvM M nA k) (mvM M' nA k) := by
  unfold mvM
  rw [h.r43, h.r46]
  split
  · exact h
  · exact movesM_sc h _ _ _ _
theorem wkM_sc {M M' : MD} (h : SC M M') (k : Nat) : SC (wkM M k) (wkM M' k) := by
  unfold wkM
  rw [h.r36, wkN_sc h, wkL_sc h, rtN_sc h, costW_sc h, h.r40]
  split
  · split
    · exact h.u 36 k 3
    · split
      · exact endM_sc h _ _ _ _
      · exact h.u 40 k _
  · exact h
theorem wkE_sc {M M' : MD} (h : SC M M') (k : Nat) : wkE M' k = wkE M k := by
  unfold wkE
  rw [h.r36, wkN_sc h, wkL_sc h, rtN_sc h, costW_sc h, h.r40]
def wksM (M : MD) : Nat → MD
  | 0 => M
  | n + 1 => wkM (wksM M n) n
def wksE (M : MD) : Nat → Int32
  | 0 => 0
  | n + 1 => wksE M n + wkE (wksM M n) n
def ajR (M : MD) (k nR nA : Nat) (M' : MD) : Prop := (M.1 43 k = -1 ∧ AjR M k nR nA M') ∨ (¬ M.1 43 k = -1 ∧ M' = M)
def T1 (nR nA : Nat) (M : MD) (e : Int32) (M' : MD) : Prop := e = wksE (mvM (mvM M nA 0) nA 1) nR ∧ ∃ B, ajR (wksM (mvM (mvM M nA 0) nA 1) nR) 0 nR nA B ∧ ∃ C, ajR B 1 nR nA C ∧ M' = uI C 7 9 (C.1 7 9 + 1)
def Tn (nR nA : Nat) (M : MD) : Nat → Int32 → MD → Prop
  | 0, e, M' => e = 0 ∧ M' = M
  | n + 1, e, M' => ∃ e1 e2 M1, Tn nR nA M n e1 M1 ∧ T1 nR nA M1 e2 M' ∧ e = e1 + e2
def TF (nT nR nA : Nat) (M : MD) : Prop := M.1 7 26 = nI nR ∧ M.1 7 8 = nI nA ∧ GA M nT nA ∧ GH M nT ∧ GW M nR nA ∧ GR M nR nT ∧ (∀ k, k < 2 → M.1 43 k = -1 ∨ ((M.1 43 k).toNatClampNeg < nT ∧ M.1 43 k = nI (M.1 43 k).toNatClampNeg ∧ (M.1 46 k).toNatClampNeg < nR ∧ M.1 46 k = nI (M.1 46 k).toNatClampNeg)) ∧ ∀ k, k < nR → M.1 36 k = 2 → M.1 37 k = nI (rtN M k) ∧ rtN M k < nT ∧ (0 < wkN M k → M.1 26 (wkL M k 0) = nI (rtN M k))
/-- what a tick keeps -/
def TI (nT nR nA : Nat) (I : MD → Prop) : Prop := (∀ M, I M → TF nT nR nA M) ∧ (∀ M k, k < 2 → I M → I (mvM M nA k)) ∧ (∀ M k, k < nR → I M → I (wkM M k)) ∧ (∀ M k M', k < 2 → I M → ajR M k nR nA M' → I M') ∧ ∀ M, I M → I (uI M 7 9 (M.1 7 9 + 1))
theorem TI_ks {nT nR nA : Nat} {I : MD → Prop} (h : TI nT nR nA I) {M : MD} (q : I M) : ∀ n, n ≤ nR → I (wksM M n)
  | 0, _ => q
  | n + 1, hn => h.2.2.1 _ _ (by omega) (TI_ks h q n (by omega))
theorem TI_1 {nT nR nA : Nat} {I : MD → Prop} (h : TI nT nR nA I) {M M' : MD} {e : Int32} (q : I M) (t : T1 nR nA M e M') : I M' := by
  obtain ⟨-, B, b1, C, c1, rfl⟩ := t
  exact h.2.2.2.2 _ (h.2.2.2.1 _ _ _ (by omega) (h.2.2.2.1 _ _ _ (by omega) (TI_ks h (h.2.1 _ _ (by omega) (h.2.1 _ _ (by omega) q)) nR (Nat.le_refl _)) b1) c1)
theorem TI_n {nT nR nA : Nat} {I : MD → Prop} (h : TI nT nR nA I) {M : MD} (q : I M) : ∀ n e M', Tn nR nA M n e M' → I M'
  | 0, _, _, t => by rw [t.2]; exact q
  | n + 1, _, _, t => by
    obtain ⟨e1, e2, M1, t1, t2, -⟩ := t
    exact TI_1 h (TI_n h q n _ _ t1) t2
