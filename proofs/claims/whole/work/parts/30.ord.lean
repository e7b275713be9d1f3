/-! ORDERS: the first of the least, in numbers -/
section ZORD
/-- ways as 0, 1, 2 -/
def w1N (f h v : Nat) : Nat := if f = h then v else if f ≤ h then 0 else 2
def wyN (f g h v : Nat) : Nat := if g ≤ f then w1N f h v else 2
def cN (f g h v : Nat) : Nat := (if f = h then g - f + 1 else g - f + 1 + ((if f ≤ h then h - f else f - h) + (if (f ≤ h ∧ v = 2) ∨ (¬ f ≤ h ∧ v = 0) then 2 else 0))) + (if g ≤ f then 0 else if w1N f h v = 0 then 2 else 0)
theorem wyN_lt {f g h v : Nat} (hv : v < 3) : wyN f g h v < 3 := by unfold wyN w1N; (repeat' split) <;> omega
theorem cN_lt {f g h v : Nat} (hf : f < 60) (hg : g < 60) (hh : h < 60) : cN f g h v < 128 := by unfold cN w1N; (repeat' split) <;> omega
theorem cN_pos {f g h v : Nat} : 0 < cN f g h v := by unfold cN w1N; (repeat' split) <;> omega
theorem wayF_N {f g h v : Nat} (hf : f < 60) (hg : g < 60) (hh : h < 60) (hv : v < 3) : wayF (nI f) (nI g) (nI h) (nI v - 1) = nI (wyN f g h v) - 1 := by
  unfold wayF way1 wyN w1N
  simp only [nI_le_iff (show g < 2147483648 by omega) (show f < 2147483648 by omega), nI_le_iff (show f < 2147483648 by omega) (show h < 2147483648 by omega), nI_eq_iff (show f < 2147483648 by omega) (show h < 2147483648 by omega)]
  repeat' split
  all_goals rfl
theorem w1_0 {f h v : Nat} (hv : v < 3) : ((if f = h then nI v - 1 else if f ≤ h then (-1 : Int32) else 1) = -1) ↔ w1N f h v = 0 := by
  unfold w1N
  have hv3 : v = 0 ∨ v = 1 ∨ v = 2 := by omega
  repeat' split
  · rcases hv3 with rfl | rfl | rfl <;> decide
  · decide
  · decide
theorem costF_N {f g h v : Nat} (hfg : f ≤ g) (hg : g < 60) (hh : h < 60) (hv : v < 3) : costF (nI f) (nI g) (nI h) (nI v - 1) = nI (cN f g h v) := by
  have e1 : nI g - nI f + 1 = nI (g - f + 1) := by rw [pk_sub hfg, nI_1]
  have hv3 : v = 0 ∨ v = 1 ∨ v = 2 := by omega
  have e2 : ∀ (b : Bool), ((nI v - 1 : Int32) = -(if b = true then (-1 : Int32) else 1)) ↔ ((b = true ∧ v = 2) ∨ (¬ b = true ∧ v = 0)) := by
    intro b
    rcases hv3 with rfl | rfl | rfl <;> cases b <;> decide
  unfold costF cost1 way1
  simp only [nI_le_iff (show g < 2147483648 by omega) (show f < 2147483648 by omega), nI_le_iff (show f < 2147483648 by omega) (show h < 2147483648 by omega), nI_eq_iff (show f < 2147483648 by omega) (show h < 2147483648 by omega), w1_0 hv, e1]
  have e3 : (if f = h then nI (g - f + 1) else nI (g - f + 1) + ((if f ≤ h then nI h - nI f else nI f - nI h) + if nI v - 1 = -(if f ≤ h then (-1 : Int32) else 1) then 2 else 0)) = nI (if f = h then g - f + 1 else g - f + 1 + ((if f ≤ h then h - f else f - h) + (if (f ≤ h ∧ v = 2) ∨ (¬ f ≤ h ∧ v = 0) then 2 else 0))) := by
    by_cases h1 : f = h
    · rw [if_pos h1, if_pos h1]
    · have hX : (if f ≤ h then nI h - nI f else nI f - nI h) = nI (if f ≤ h then h - f else f - h) := by
        split
        · rw [pk_sub (by assumption)]
        · rw [pk_sub (by omega)]
      have hY : (if nI v - 1 = -(if f ≤ h then (-1 : Int32) else 1) then (2 : Int32) else 0) = nI (if (f ≤ h ∧ v = 2) ∨ (¬ f ≤ h ∧ v = 0) then 2 else 0) := by
        have := e2 (decide (f ≤ h))
        simp only [decide_eq_true_eq] at this
        by_cases h2 : (f ≤ h ∧ v = 2) ∨ (¬ f ≤ h ∧ v = 0)
        · rw [if_pos h2, if_pos (this.mpr h2)]; rfl
        · rw [if_neg h2, if_neg (fun z => h2 (this.mp z))]; rfl
      rw [if_neg h1, if_neg h1, hX, hY, nI_add, nI_add]
  rw [e3]
  unfold cN
  by_cases h3 : g ≤ f
  · rw [if_pos h3, if_pos h3]
    exact congrArg nI (Nat.add_zero _).symm
  · rw [if_neg h3, if_neg h3, ← nI_add]
    congr 1
    split <;> rfl
/-- the first of the least -/
def upO (a : Option (Nat × List Nat)) (x : Nat × List Nat) : Option (Nat × List Nat) := match a with
  | none => some x
  | some y => if x.1 < y.1 then some x else some y
def fmO (a b : Option (Nat × List Nat)) : Option (Nat × List Nat) := match b with
  | none => a
  | some x => upO a x
def fm (cand : Nat → Option (Nat × List Nat)) : Nat → Option (Nat × List Nat)
  | 0 => none
  | k + 1 => fmO (fm cand k) (cand k)
def sh (b : Nat) (p : List Nat) (x : Nat × List Nat) : Nat × List Nat := (b + x.1, p ++ x.2)
def upS (a : Option (Nat × List Nat)) (b : Nat) (p : List Nat) (x : Option (Nat × List Nat)) : Option (Nat × List Nat) := match x with
  | none => a
  | some y => upO a (sh b p y)
theorem upS_fmO (a : Option (Nat × List Nat)) (b : Nat) (p : List Nat) (x y : Option (Nat × List Nat)) : upS a b p (fmO x y) = upS (upS a b p x) b p y := by
  cases y with
  | none => rfl
  | some y =>
    cases x with
    | none => rfl
    | some x =>
      show upS a b p (if y.1 < x.1 then some y else some x) = upO (upO a (sh b p x)) (sh b p y)
      cases a with
      | none =>
        show _ = if b + y.1 < b + x.1 then some (sh b p y) else some (sh b p x)
        by_cases h : y.1 < x.1
        · rw [if_pos h, if_pos (by omega)]; rfl
        · rw [if_neg h, if_neg (by omega)]; rfl
      | some z =>
        by_cases h : y.1 < x.1
        · rw [if_pos h]
          show (if b + y.1 < z.1 then some (sh b p y) else some z) = upO (if b + x.1 < z.1 then some (sh b p x) else some z) (sh b p y)
          by_cases h2 : b + x.1 < z.1
          · rw [if_pos h2, if_pos (by omega)]
            show _ = if b + y.1 < b + x.1 then some (sh b p y) else some (sh b p x)
            rw [if_pos (by omega)]
          · rw [if_neg h2]; rfl
        · rw [if_neg h]
          show (if b + x.1 < z.1 then some (sh b p x) else some z) = upO (if b + x.1 < z.1 then some (sh b p x) else some z) (sh b p y)
          by_cases h2 : b + x.1 < z.1
          · rw [if_pos h2]
            show _ = if b + y.1 < b + x.1 then some (sh b p y) else some (sh b p x)
            rw [if_neg (by omega)]
          · rw [if_neg h2]
            show _ = if b + y.1 < z.1 then some (sh b p y) else some z
            rw [if_neg (by omega)]
/-- the best of what is left: r asks, those of the set u are done; the head at h, the way v; weighed or not -/
def VS (n : Nat) (fr to : Nat → Nat) (wt : Bool) : Nat → Nat → Nat → Nat → Nat × List Nat
  | 0, _, _, _ => (0, [])
  | r + 1, u, h, v => ((fm (fun i => if u.testBit i = true then none else some ((if wt = true then r + 1 else 1) * cN (fr i) (to i) h v + (VS n fr to wt r (u + 2 ^ i) (to i) (wyN (fr i) (to i) h v)).1, i :: (VS n fr to wt r (u + 2 ^ i) (to i) (wyN (fr i) (to i) h v)).2)) n).getD (0, []))
def cnd (n : Nat) (fr to : Nat → Nat) (wt : Bool) (r u h v i : Nat) : Option (Nat × List Nat) := if u.testBit i = true then none else some ((if wt = true then r + 1 else 1) * cN (fr i) (to i) h v + (VS n fr to wt r (u + 2 ^ i) (to i) (wyN (fr i) (to i) h v)).1, i :: (VS n fr to wt r (u + 2 ^ i) (to i) (wyN (fr i) (to i) h v)).2)
theorem VS_s (n : Nat) (fr to : Nat → Nat) (wt : Bool) (r u h v : Nat) : VS n fr to wt (r + 1) u h v = (fm (cnd n fr to wt r u h v) n).getD (0, []) := rfl
/-- how many of the first n are not in u -/
def lft (u : Nat) : Nat → Nat
  | 0 => 0
  | n + 1 => lft u n + if u.testBit n = true then 0 else 1
theorem fm_none {cand : Nat → Option (Nat × List Nat)} : ∀ {k : Nat}, fm cand k = none → ∀ i, i < k → cand i = none
  | 0, _, i, hi => by omega
  | k + 1, h, i, hi => by
    have h' : fmO (fm cand k) (cand k) = none := h
    cases hc : cand k with
    | none =>
      rw [hc] at h'
      rcases Nat.lt_or_ge i k with q | q
      · exact fm_none h' i q
      · rw [show i = k by omega]; exact hc
    | some x =>
      rw [hc] at h'
      cases hf : fm cand k with
      | none => rw [hf] at h'; cases h'
      | some y =>
        rw [hf] at h'
        have h2 : (if x.1 < y.1 then some x else some y) = none := h'
        split at h2 <;> cases h2
theorem fm_mem {cand : Nat → Option (Nat × List Nat)} {x : Nat × List Nat} : ∀ {k : Nat}, fm cand k = some x → ∃ i, i < k ∧ cand i = some x
  | 0, h => by cases h
  | k + 1, h => by
    have h' : fmO (fm cand k) (cand k) = some x := h
    cases hc : cand k with
    | none =>
      rw [hc] at h'
      obtain ⟨i, h1, h2⟩ := fm_mem (k := k) h'
      exact ⟨i, by omega, h2⟩
    | some y =>
      rw [hc] at h'
      cases hf : fm cand k with
      | none => rw [hf] at h'; cases h'; exact ⟨k, by omega, hc⟩
      | some z =>
        rw [hf] at h'
        have h2 : (if y.1 < z.1 then some y else some z) = some x := h'
        split at h2
        · cases h2; exact ⟨k, by omega, hc⟩
        · cases h2
          obtain ⟨i, h1, h2⟩ := fm_mem (k := k) hf
          exact ⟨i, by omega, h2⟩
theorem lft_0 {u : Nat} : ∀ {n : Nat}, (∀ i, i < n → u.testBit i = true) → lft u n = 0
  | 0, _ => rfl
  | n + 1, h => by
    show lft u n + _ = 0
    rw [lft_0 (fun i hi => h i (by omega)), if_pos (h n (by omega))]
theorem bit_add {u i : Nat} (h : u.testBit i = false) (j : Nat) : (u + 2 ^ i).testBit j = (u.testBit j || decide (i = j)) := by
  have hlt : u % 2 ^ (i + 1) < 2 ^ i := by
    apply Nat.lt_pow_two_of_testBit
    intro k hk
    rw [Nat.testBit_mod_two_pow]
    rcases Nat.lt_or_ge i k with q | q
    · simp; omega
    · rw [show k = i by omega, h]; simp
  have hd : u = 2 ^ (i + 1) * (u / 2 ^ (i + 1)) + u % 2 ^ (i + 1) := (Nat.div_add_mod _ _).symm
  have hp : 2 ^ (i + 1) = 2 * 2 ^ i := by rw [Nat.pow_succ, Nat.mul_comm]
  have e1 : u + 2 ^ i = 2 ^ (i + 1) * (u / 2 ^ (i + 1)) + (2 ^ i + u % 2 ^ (i + 1)) := by omega
  have e2 : u.testBit j = (2 ^ (i + 1) * (u / 2 ^ (i + 1)) + u % 2 ^ (i + 1)).testBit j := by rw [← hd]
  rw [e1, e2, Nat.testBit_two_pow_mul_add _ (by omega), Nat.testBit_two_pow_mul_add _ (by omega)]
  by_cases hj : j < i + 1
  · rw [if_pos hj, if_pos hj]
    by_cases hji : i = j
    · subst hji
      rw [Nat.testBit_two_pow_add_eq, Nat.testBit_lt_two_pow hlt]
      simp
    · rw [Nat.testBit_two_pow_add_gt (by omega)]
      simp [hji]
  · rw [if_neg hj, if_neg hj]
    have : ¬ i = j := by omega
    simp [this]
theorem lft_s {u i : Nat} (h : u.testBit i = false) : ∀ {n : Nat}, lft (u + 2 ^ i) n + (if i < n then 1 else 0) = lft u n
  | 0 => by simp [lft]
  | n + 1 => by
    have ih := lft_s h (n := n)
    show lft (u + 2 ^ i) n + (if (u + 2 ^ i).testBit n = true then 0 else 1) + _ = lft u n + _
    rw [bit_add h n]
    by_cases hi : i = n
    · subst hi
      rw [if_neg (by omega)] at ih
      simp [h]
      omega
    · have e : (u.testBit n || decide (i = n)) = u.testBit n := by simp [hi]
      rw [e]
      rcases Nat.lt_or_ge i n with q | q
      · rw [if_pos q] at ih
        rw [show (if i < n + 1 then 1 else 0) = 1 from if_pos (by omega)]
        omega
      · rw [if_neg (by omega)] at ih
        rw [show (if i < n + 1 then 1 else 0) = 0 from if_neg (by omega)]
        omega
theorem fm_some {n r u h v : Nat} {fr to : Nat → Nat} {wt : Bool} (hl : lft u n = r + 1) : ∃ x, fm (cnd n fr to wt r u h v) n = some x := by
  cases hf : fm (cnd n fr to wt r u h v) n with
  | some x => exact ⟨x, rfl⟩
  | none =>
    have h1 := fm_none hf
    have h2 := lft_0 (u := u) (n := n) (fun i hi => by
      have h3 := h1 i hi
      unfold cnd at h3
      split at h3
      · assumption
      · cases h3)
    omega
/-- bounds -/
theorem VS_lt {n : Nat} {fr to : Nat → Nat} {wt : Bool} (hn : n ≤ 8) (hb : ∀ i, i < n → fr i < 60 ∧ to i < 60) : ∀ (r u h v : Nat), r ≤ 8 → h < 60 → (VS n fr to wt r u h v).1 ≤ r * 1024
  | 0, u, h, v, _, _ => by simp [VS]
  | r + 1, u, h, v, hr, hh => by
    rw [VS_s]
    cases hf : fm (cnd n fr to wt r u h v) n with
    | none => simp
    | some x =>
      obtain ⟨i, hi, hc⟩ := fm_mem hf
      unfold cnd at hc
      split at hc
      · cases hc
      · cases hc
        have h1 := VS_lt (fr := fr) (to := to) (wt := wt) hn hb r (u + 2 ^ i) (to i) (wyN (fr i) (to i) h v) (by omega) (hb i hi).2
        have h2 := cN_lt (v := v) (hb i hi).1 (hb i hi).2 hh
        have h3 : (if wt = true then r + 1 else 1) * cN (fr i) (to i) h v ≤ 8 * 128 := Nat.mul_le_mul (by split <;> omega) (by omega)
        show _ + _ ≤ (r + 1) * 1024
        omega
/-- what an order is: its asks differ, none of u, r of them -/
theorem VS_len {n : Nat} {fr to : Nat → Nat} {wt : Bool} : ∀ (r u h v : Nat), lft u n = r → (VS n fr to wt r u h v).2.length = r ∧ (∀ i ∈ (VS n fr to wt r u h v).2, i < n ∧ u.testBit i = false)
  | 0, u, h, v, _ => by simp [VS]
  | r + 1, u, h, v, hl => by
    rw [VS_s]
    obtain ⟨x, hx⟩ := fm_some (fr := fr) (to := to) (wt := wt) (h := h) (v := v) hl
    rw [hx]
    obtain ⟨i, hi, hc⟩ := fm_mem hx
    unfold cnd at hc
    split at hc
    · cases hc
    · rename_i hb
      cases hc
      have hb' : u.testBit i = false := by simpa using hb
      have h3 := lft_s hb' (n := n)
      rw [if_pos hi] at h3
      obtain ⟨h1, h2⟩ := VS_len (n := n) (fr := fr) (to := to) (wt := wt) r (u + 2 ^ i) (to i) (wyN (fr i) (to i) h v) (by omega)
      refine ⟨by simp [h1], fun j hj => ?_⟩
      rcases List.mem_cons.mp hj with rfl | hj
      · exact ⟨hi, hb'⟩
      · obtain ⟨g1, g2⟩ := h2 j hj
        rw [bit_add hb'] at g2
        simp at g2
        exact ⟨g1, g2.1⟩
end ZORD
