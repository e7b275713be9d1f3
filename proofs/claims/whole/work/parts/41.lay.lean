/-! Winding: what is still to come -/
section ZLAY
def csum (ct : Nat → Nat) (u : Nat) : Nat → Nat
  | 0 => 0
  | n + 1 => csum ct u n + if u.testBit n = true then ct n else 0
def tsum (ct : Nat → Nat) : Nat → Nat
  | 0 => 0
  | n + 1 => tsum ct n + ct n
def dsum (ct st : Nat → Nat) (u a : Nat) : Nat → Nat
  | 0 => 0
  | n + 1 => dsum ct st u a n + if u.testBit n = true then ct n * (a - st n) else 0
def msum (ct st : Nat → Nat) (u a i : Nat) : Nat → Nat
  | 0 => 0
  | n + 1 => msum ct st u a i n + if u.testBit n = true then ct n * ct i * (a - st n) else 0
def spL (sz : Nat → Nat) : List Nat → Nat
  | [] => 0
  | j :: l => sz j + spL sz l
def stO (sz : Nat → Nat) : List Nat → Nat → Nat → Nat
  | [], _, _ => 0
  | j :: l, a, i => if i = j then a else stO sz l (a + sz j) i
def stepL (n : Nat) (sz ct : Nat → Nat) (u i : Nat) : Nat := sz i * ((csum ct u n + ct i) * (tsum ct n - (csum ct u n + ct i)))
def LV (n : Nat) (sz ct : Nat → Nat) : Nat → Nat → Nat × List Nat
  | 0, _ => (0, [])
  | r + 1, u => ((fm (fun i => if u.testBit i = true then none else some (stepL n sz ct u i + (LV n sz ct r (u + 2 ^ i)).1, i :: (LV n sz ct r (u + 2 ^ i)).2)) n).getD (0, []))
def cnl (n : Nat) (sz ct : Nat → Nat) (r u i : Nat) : Option (Nat × List Nat) := if u.testBit i = true then none else some (stepL n sz ct u i + (LV n sz ct r (u + 2 ^ i)).1, i :: (LV n sz ct r (u + 2 ^ i)).2)
theorem LV_s (n : Nat) (sz ct : Nat → Nat) (r u : Nat) : LV n sz ct (r + 1) u = (fm (cnl n sz ct r u) n).getD (0, []) := rfl
theorem fm_someL {n r u : Nat} {sz ct : Nat → Nat} (hl : lft u n = r + 1) : ∃ x, fm (cnl n sz ct r u) n = some x := by
  cases hf : fm (cnl n sz ct r u) n with
  | some x => exact ⟨x, rfl⟩
  | none =>
    have h1 := fm_none hf
    have h2 := lft_0 (u := u) (n := n) (fun i hi => by
      have h3 := h1 i hi
      unfold cnl at h3
      split at h3
      · assumption
      · cases h3)
    omega
theorem csum_le (ct : Nat → Nat) (u : Nat) : ∀ n, csum ct u n ≤ tsum ct n
  | 0 => Nat.le_refl _
  | n + 1 => by
    have := csum_le ct u n
    show csum ct u n + _ ≤ tsum ct n + _
    split <;> omega
theorem csum_full {ct : Nat → Nat} {u : Nat} : ∀ {n : Nat}, lft u n = 0 → csum ct u n = tsum ct n
  | 0, _ => rfl
  | n + 1, h => by
    have h' : lft u n + (if u.testBit n = true then 0 else 1) = 0 := h
    by_cases hb : u.testBit n = true
    · rw [if_pos hb] at h'
      show csum ct u n + _ = tsum ct n + _
      rw [if_pos hb, csum_full (by omega)]
    · rw [if_neg hb] at h'
      omega
theorem lft_bits {u : Nat} : ∀ {n : Nat}, lft u n = 0 → ∀ i, i < n → u.testBit i = true
  | 0, _, i, hi => by omega
  | n + 1, h, i, hi => by
    have h' : lft u n + (if u.testBit n = true then 0 else 1) = 0 := h
    by_cases hb : u.testBit n = true
    · rcases Nat.lt_or_ge i n with q | q
      · exact lft_bits (by omega) i q
      · rw [show i = n by omega]; exact hb
    · rw [if_neg hb] at h'
      omega
theorem csum_add {ct : Nat → Nat} {u i : Nat} (h : u.testBit i = false) : ∀ n, csum ct (u + 2 ^ i) n = csum ct u n + if i < n then ct i else 0
  | 0 => by simp [csum]
  | n + 1 => by
    show csum ct (u + 2 ^ i) n + (if (u + 2 ^ i).testBit n = true then ct n else 0) = csum ct u n + (if u.testBit n = true then ct n else 0) + _
    rw [csum_add h n, bit_add h n]
    by_cases hi : i = n
    · subst hi
      rw [if_neg (by omega), if_pos (show i < i + 1 by omega), h]
      simp
    · have e : (u.testBit n || decide (i = n)) = u.testBit n := by simp [hi]
      rw [e]
      rcases Nat.lt_or_ge i n with q | q
      · rw [if_pos q, if_pos (show i < n + 1 by omega)]
        omega
      · rw [if_neg (show ¬ i < n by omega), if_neg (show ¬ i < n + 1 by omega)]
        omega
theorem csum_in {ct : Nat → Nat} {u i n : Nat} (h : u.testBit i = false) (hi : i < n) : csum ct u n + ct i ≤ tsum ct n := by
  have := csum_le ct (u + 2 ^ i) n
  rw [csum_add h, if_pos hi] at this
  exact this
theorem msum_eq (ct st : Nat → Nat) (u a i : Nat) : ∀ n, msum ct st u a i n = ct i * dsum ct st u a n
  | 0 => rfl
  | n + 1 => by
    show msum ct st u a i n + _ = ct i * (dsum ct st u a n + _)
    rw [msum_eq ct st u a i n, Nat.mul_add]
    split
    · rw [Nat.mul_comm (ct n) (ct i), Nat.mul_assoc]
    · rfl
theorem dsum_add {ct st st' : Nat → Nat} {u i a s : Nat} (h : u.testBit i = false) (h1 : st' i = a) : ∀ n, (∀ j, j < n → u.testBit j = true → st j ≤ a ∧ st' j = st j) → dsum ct st' (u + 2 ^ i) (a + s) n = dsum ct st u a n + (csum ct u n + if i < n then ct i else 0) * s
  | 0, _ => by simp [dsum, csum]
  | n + 1, hs => by
    show dsum ct st' (u + 2 ^ i) (a + s) n + (if (u + 2 ^ i).testBit n = true then ct n * (a + s - st' n) else 0) = dsum ct st u a n + (if u.testBit n = true then ct n * (a - st n) else 0) + (csum ct u n + (if u.testBit n = true then ct n else 0) + _) * s
    rw [dsum_add h h1 n (fun j hj => hs j (by omega)), bit_add h n]
    by_cases hi : i = n
    · subst hi
      rw [if_neg (show ¬ i < i by omega), if_pos (show i < i + 1 by omega), h, h1]
      simp only [Bool.false_or, decide_true, if_true, Bool.false_eq_true, if_false, Nat.add_zero]
      rw [show a + s - a = s by omega, Nat.add_mul]
      omega
    · have e : (u.testBit n || decide (i = n)) = u.testBit n := by simp [hi]
      have e2 : (if i < n + 1 then ct i else 0) = if i < n then ct i else 0 := by
        rcases Nat.lt_or_ge i n with q | q
        · rw [if_pos q, if_pos (by omega)]
        · rw [if_neg (by omega), if_neg (by omega)]
      rw [e, e2]
      by_cases hb : u.testBit n = true
      · obtain ⟨g1, g2⟩ := hs n (by omega) hb
        rw [if_pos hb, if_pos hb, if_pos hb, g2, show a + s - st n = (a - st n) + s by omega, Nat.mul_add, Nat.add_mul, Nat.add_mul, Nat.add_mul]
        omega
      · rw [if_neg hb, if_neg hb, if_neg hb, Nat.add_zero, Nat.add_zero, Nat.add_zero]
theorem spL_app (sz : Nat → Nat) (i : Nat) : ∀ p, spL sz (p ++ [i]) = spL sz p + sz i
  | [] => by simp [spL]
  | j :: l => by
    show sz j + spL sz (l ++ [i]) = sz j + spL sz l + sz i
    rw [spL_app sz i l]
    omega
theorem stO_app {sz : Nat → Nat} {i : Nat} : ∀ (p : List Nat) (a j : Nat), (j ≠ i → stO sz (p ++ [i]) a j = stO sz p a j) ∧ (i ∉ p → stO sz (p ++ [i]) a i = a + spL sz p)
  | [], a, j => ⟨fun h => if_neg h, fun _ => if_pos rfl⟩
  | k :: l, a, j => by
    obtain ⟨h1, h2⟩ := stO_app (sz := sz) (i := i) l (a + sz k) j
    refine ⟨fun h => ?_, fun h => ?_⟩
    · show (if j = k then a else stO sz (l ++ [i]) (a + sz k) j) = if j = k then a else _
      rw [h1 h]
    · show (if i = k then a else stO sz (l ++ [i]) (a + sz k) i) = a + (sz k + spL sz l)
      rw [if_neg (fun z => h (by rw [z]; exact List.mem_cons_self)), h2 (fun z => h (List.mem_cons_of_mem _ z))]
      omega
theorem stO_le {sz : Nat → Nat} {j : Nat} : ∀ (p : List Nat) (a : Nat), stO sz p a j ≤ a + spL sz p
  | [], a => Nat.zero_le _
  | k :: l, a => by
    have := stO_le (sz := sz) (j := j) l (a + sz k)
    show (if j = k then a else _) ≤ a + (sz k + spL sz l)
    split <;> omega
theorem step_id {w D S c s X P : Nat} (h : w + D * (X + c) = P) : w + c * D + (D + (S + c) * s) * X = P + s * ((S + c) * X) := by
  rw [← h, Nat.mul_add, Nat.add_mul, Nat.mul_comm c D, Nat.mul_comm (S + c) s, Nat.mul_assoc]
  omega
theorem spL_le {sz : Nat → Nat} {n : Nat} (h : ∀ i, i < n → sz i ≤ 50) : ∀ p : List Nat, (∀ j ∈ p, j < n) → spL sz p ≤ p.length * 50
  | [], _ => Nat.le_refl _
  | j :: l, hp => by
    have h1 := spL_le h l (fun k hk => hp k (List.mem_cons_of_mem _ hk))
    have h2 := h j (hp j List.mem_cons_self)
    show sz j + spL sz l ≤ (l.length + 1) * 50
    omega
theorem tsum_le {ct : Nat → Nat} : ∀ {n : Nat}, (∀ i, i < n → ct i ≤ 1000) → tsum ct n ≤ n * 1000
  | 0, _ => Nat.le_refl _
  | n + 1, h => by
    have h1 := tsum_le (n := n) (fun i hi => h i (by omega))
    have h2 := h n (by omega)
    show tsum ct n + ct n ≤ _
    omega
theorem stepL_le {n : Nat} {sz ct : Nat → Nat} {u i : Nat} (hn : n ≤ 8) (hb : u.testBit i = false) (hi : i < n) (h1 : ∀ i, i < n → sz i ≤ 50) (h2 : ∀ i, i < n → ct i ≤ 1000) : stepL n sz ct u i ≤ 4000000000 := by
  have a1 := csum_in (ct := ct) hb hi
  have a2 := tsum_le h2
  have a3 := h1 i hi
  unfold stepL
  have : sz i * ((csum ct u n + ct i) * (tsum ct n - (csum ct u n + ct i))) ≤ 50 * (8000 * 8000) := Nat.mul_le_mul a3 (Nat.mul_le_mul (by omega) (by omega))
  omega
theorem LV_le {n : Nat} {sz ct : Nat → Nat} (hn : n ≤ 8) (h1 : ∀ i, i < n → sz i ≤ 50) (h2 : ∀ i, i < n → ct i ≤ 1000) : ∀ r u, (LV n sz ct r u).1 ≤ r * 4000000000
  | 0, _ => Nat.le_refl _
  | r + 1, u => by
    rw [LV_s]
    cases hf : fm (cnl n sz ct r u) n with
    | none => simp
    | some x =>
      obtain ⟨i, hi, hc⟩ := fm_mem hf
      unfold cnl at hc
      split at hc
      · cases hc
      · rename_i hb
        cases hc
        have g1 := LV_le hn h1 h2 r (u + 2 ^ i)
        have g2 := stepL_le (u := u) hn (by simpa using hb) hi h1 h2
        show _ + _ ≤ (r + 1) * 4000000000
        omega
end ZLAY
