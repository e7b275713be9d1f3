/-! the model's scratch: what no answer of a later call hangs on -/
def scr (k i : Nat) : Bool := k == 32 || k == 33 || k == 34 || k == 49 || k == 50 || (k == 7 && (i == 0 || i == 20 || i == 22 || i == 25))
def SC (M M' : MD) : Prop := (∀ k i, scr k i = false → M'.1 k i = M.1 k i) ∧ ∀ k i, k ≠ 7 → M'.2 k i = M.2 k i
theorem SC.rf (M : MD) : SC M M := ⟨fun _ _ _ => rfl, fun _ _ _ => rfl⟩
theorem SC.tr {M M1 M2 : MD} (h : SC M M1) (g : SC M1 M2) : SC M M2 := ⟨fun k i q => (g.1 k i q).trans (h.1 k i q), fun k i q => (g.2 k i q).trans (h.2 k i q)⟩
theorem SC.sy {M M1 : MD} (h : SC M M1) : SC M1 M := ⟨fun k i q => (h.1 k i q).symm, fun k i q => (h.2 k i q).symm⟩
theorem SC.w {M M1 : MD} (h : SC M M1) {k i : Nat} (x : Int32) (hk : scr k i = true) : SC M (uI M1 k i x) := ⟨fun a b q => by rw [uI_1, if_neg (fun z => by rw [z.1, z.2, hk] at q; cases q)]; exact h.1 a b q, h.2⟩
theorem SC.wj {M M1 : MD} (h : SC M M1) (i : Nat) (x : Int64) : SC M (uJ M1 7 i x) := ⟨h.1, fun a b q => by rw [uJ_2, if_neg (fun z => q z.1)]; exact h.2 a b q⟩
theorem SC.u {M M1 : MD} (h : SC M M1) (k i : Nat) (x : Int32) : SC (uI M k i x) (uI M1 k i x) := ⟨fun a b q => by rw [uI_1, uI_1]; split <;> first | rfl | exact h.1 a b q, h.2⟩
theorem SC.uj {M M1 : MD} (h : SC M M1) (k i : Nat) (x : Int64) : SC (uJ M k i x) (uJ M1 k i x) := ⟨h.1, fun a b q => by rw [uJ_2, uJ_2]; split <;> first | rfl | exact h.2 a b q⟩
theorem SC.r20 {M M1 : MD} (h : SC M M1) (i : Nat) : M1.1 20 i = M.1 20 i := h.1 20 i rfl
theorem SC.r21 {M M1 : MD} (h : SC M M1) (i : Nat) : M1.1 21 i = M.1 21 i := h.1 21 i rfl
theorem SC.r22 {M M1 : MD} (h : SC M M1) (i : Nat) : M1.1 22 i = M.1 22 i := h.1 22 i rfl
theorem SC.r23 {M M1 : MD} (h : SC M M1) (i : Nat) : M1.1 23 i = M.1 23 i := h.1 23 i rfl
theorem SC.r24 {M M1 : MD} (h : SC M M1) (i : Nat) : M1.1 24 i = M.1 24 i := h.1 24 i rfl
theorem SC.r25 {M M1 : MD} (h : SC M M1) (i : Nat) : M1.1 25 i = M.1 25 i := h.1 25 i rfl
theorem SC.r26 {M M1 : MD} (h : SC M M1) (i : Nat) : M1.1 26 i = M.1 26 i := h.1 26 i rfl
theorem SC.r27 {M M1 : MD} (h : SC M M1) (i : Nat) : M1.1 27 i = M.1 27 i := h.1 27 i rfl
theorem SC.r28 {M M1 : MD} (h : SC M M1) (i : Nat) : M1.1 28 i = M.1 28 i := h.1 28 i rfl
theorem SC.r29 {M M1 : MD} (h : SC M M1) (i : Nat) : M1.1 29 i = M.1 29 i := h.1 29 i rfl
theorem SC.r30 {M M1 : MD} (h : SC M M1) (i : Nat) : M1.1 30 i = M.1 30 i := h.1 30 i rfl
theorem SC.r31 {M M1 : MD} (h : SC M M1) (i : Nat) : M1.1 31 i = M.1 31 i := h.1 31 i rfl
theorem SC.r35 {M M1 : MD} (h : SC M M1) (i : Nat) : M1.1 35 i = M.1 35 i := h.1 35 i rfl
theorem SC.r36 {M M1 : MD} (h : SC M M1) (i : Nat) : M1.1 36 i = M.1 36 i := h.1 36 i rfl
theorem SC.r37 {M M1 : MD} (h : SC M M1) (i : Nat) : M1.1 37 i = M.1 37 i := h.1 37 i rfl
theorem SC.r38 {M M1 : MD} (h : SC M M1) (i : Nat) : M1.1 38 i = M.1 38 i := h.1 38 i rfl
theorem SC.r39 {M M1 : MD} (h : SC M M1) (i : Nat) : M1.1 39 i = M.1 39 i := h.1 39 i rfl
theorem SC.r40 {M M1 : MD} (h : SC M M1) (i : Nat) : M1.1 40 i = M.1 40 i := h.1 40 i rfl
theorem SC.r41 {M M1 : MD} (h : SC M M1) (i : Nat) : M1.1 41 i = M.1 41 i := h.1 41 i rfl
theorem SC.r42 {M M1 : MD} (h : SC M M1) (i : Nat) : M1.1 42 i = M.1 42 i := h.1 42 i rfl
theorem SC.r43 {M M1 : MD} (h : SC M M1) (i : Nat) : M1.1 43 i = M.1 43 i := h.1 43 i rfl
theorem SC.r44 {M M1 : MD} (h : SC M M1) (i : Nat) : M1.1 44 i = M.1 44 i := h.1 44 i rfl
theorem SC.r45 {M M1 : MD} (h : SC M M1) (i : Nat) : M1.1 45 i = M.1 45 i := h.1 45 i rfl
theorem SC.r46 {M M1 : MD} (h : SC M M1) (i : Nat) : M1.1 46 i = M.1 46 i := h.1 46 i rfl
theorem SC.r47 {M M1 : MD} (h : SC M M1) (i : Nat) : M1.1 47 i = M.1 47 i := h.1 47 i rfl
theorem SC.r48 {M M1 : MD} (h : SC M M1) (i : Nat) : M1.1 48 i = M.1 48 i := h.1 48 i rfl
theorem SC.r80 {M M1 : MD} (h : SC M M1) (i : Nat) : M1.1 80 i = M.1 80 i := h.1 80 i rfl
theorem SC.r81 {M M1 : MD} (h : SC M M1) (i : Nat) : M1.1 81 i = M.1 81 i := h.1 81 i rfl
theorem SC.r91 {M M1 : MD} (h : SC M M1) (i : Nat) : M1.2 91 i = M.2 91 i := h.2 91 i (by decide)
theorem SC.r92 {M M1 : MD} (h : SC M M1) (i : Nat) : M1.2 92 i = M.2 92 i := h.2 92 i (by decide)
theorem SC.s1 {M M1 : MD} (h : SC M M1) : M1.1 7 1 = M.1 7 1 := h.1 7 1 rfl
theorem SC.s8 {M M1 : MD} (h : SC M M1) : M1.1 7 8 = M.1 7 8 := h.1 7 8 rfl
theorem SC.s9 {M M1 : MD} (h : SC M M1) : M1.1 7 9 = M.1 7 9 := h.1 7 9 rfl
theorem SC.s10 {M M1 : MD} (h : SC M M1) : M1.1 7 10 = M.1 7 10 := h.1 7 10 rfl
theorem SC.s11 {M M1 : MD} (h : SC M M1) : M1.1 7 11 = M.1 7 11 := h.1 7 11 rfl
theorem SC.s26 {M M1 : MD} (h : SC M M1) : M1.1 7 26 = M.1 7 26 := h.1 7 26 rfl
theorem SC.s41 {M M1 : MD} (h : SC M M1) : M1.1 7 41 = M.1 7 41 := h.1 7 41 rfl
theorem SC.s42 {M M1 : MD} (h : SC M M1) : M1.1 7 42 = M.1 7 42 := h.1 7 42 rfl
/-- counting, summing -/
def cn (p : Nat → Bool) : Nat → Nat
  | 0 => 0
  | n + 1 => cn p n + if p n = true then 1 else 0
def sm (f : Nat → Int32) : Nat → Int32
  | 0 => 0
  | n + 1 => sm f n + f n
theorem cn_le (p : Nat → Bool) : ∀ n, cn p n ≤ n
  | 0 => Nat.le_refl _
  | n + 1 => by
    have h := cn_le p n
    show cn p n + _ ≤ n + 1
    split <;> omega
theorem cn_cong {p q : Nat → Bool} : ∀ n, (∀ k, k < n → p k = q k) → cn p n = cn q n
  | 0, _ => rfl
  | n + 1, h => by
    show cn p n + _ = cn q n + _
    rw [cn_cong n (fun k hk => h k (by omega)), h n (by omega)]
theorem sm_cong {f g : Nat → Int32} : ∀ n, (∀ k, k < n → f k = g k) → sm f n = sm g n
  | 0, _ => rfl
  | n + 1, h => by
    show sm f n + _ = sm g n + _
    rw [sm_cong n (fun k hk => h k (by omega)), h n (by omega)]
theorem nI_lt_iff {a b : Nat} (ha : a < 2147483648 := by omega) (hb : b < 2147483648 := by omega) : (nI a < nI b) = (a < b) := propext (nI_ltI ha hb)
theorem nI_le_iff {a b : Nat} (ha : a < 2147483648 := by omega) (hb : b < 2147483648 := by omega) : (nI a ≤ nI b) = (a ≤ b) := propext (nI_leI ha hb)
theorem nI_eq_iff {a b : Nat} (ha : a < 2147483648 := by omega) (hb : b < 2147483648 := by omega) : (nI a = nI b) = (a = b) := propext (nI_eq ha hb)
theorem nI_cn (p : Nat → Bool) (n : Nat) : nI (cn p (n + 1)) = nI (cn p n) + (if p n = true then 1 else 0) := by
  show nI (cn p n + _) = _
  split
  · exact (nI_1 _).symm
  · rw [Nat.add_zero, Int32.add_zero]
theorem nI_toI {a : Nat} (ha : a < 2147483648) : (nI a).toInt = (a : Int) := nI_toInt ha
/-- an argument within 0 .. n - 1 is such a number -/
theorem in_nI {x : Int32} {n : Nat} (hn : n ≤ 1000000) (h : 0 ≤ x ∧ x ≤ nI n - 1) : ∃ j, j < n ∧ x = nI j := by
  have h0 : (0 : Int) ≤ x.toInt := by simpa using Int32.le_iff_toInt_le.mp h.1
  by_cases hz : n = 0
  · subst hz
    have h1 := Int32.le_iff_toInt_le.mp h.2
    have h2 : (nI 0 - 1 : Int32).toInt = -1 := by decide
    omega
  · obtain ⟨m, rfl⟩ : ∃ m, n = m + 1 := ⟨n - 1, by omega⟩
    rw [nI_pred] at h
    have h1 := Int32.le_iff_toInt_le.mp h.2
    rw [nI_toI (by omega)] at h1
    refine ⟨x.toInt.toNat, by omega, ?_⟩
    apply Int32.toInt_inj.mp
    rw [nI_toI (by omega)]
    omega
theorem nI_in2 {j n : Nat} (hn : n ≤ 1000000) : (0 ≤ nI j ∧ nI j ≤ nI n - 1) ↔ ∃ i, i < n ∧ nI j = nI i := ⟨fun h => in_nI hn h, fun ⟨i, hi, e⟩ => by
  rw [e]
  obtain ⟨m, rfl⟩ : ∃ m, n = m + 1 := ⟨n - 1, by omega⟩
  rw [nI_pred]
  exact ⟨nI_pos' (by omega), nI_le (by omega) (by omega)⟩⟩
theorem in_nI' {j n : Nat} (hj : j < n) (hn : n ≤ 1000000) : 0 ≤ nI j ∧ nI j ≤ nI n - 1 := (nI_in2 hn).mpr ⟨j, hj, rfl⟩
