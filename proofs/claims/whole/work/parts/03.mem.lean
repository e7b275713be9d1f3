/-! A typed memory of my own (numbers stand for cells), and how the machine's heap holds it -/
section ZMEM
abbrev HP : Type := (Nat → Nat → Bool) × (Nat → Nat → Nat) × (Nat → Nat → Nat → Int32) × (Nat → Nat → Nat → Int64) × (Nat → Nat → Nat → Option Nat)
def mA (h : HP) (k j : Nat) : Bool := h.1 k j
def mL (h : HP) (k j : Nat) : Nat := h.2.1 k j
def mI (h : HP) (k i j : Nat) : Int32 := h.2.2.1 k i j
def mJ (h : HP) (k i j : Nat) : Int64 := h.2.2.2.1 k i j
def mP (h : HP) (k i j : Nat) : Option Nat := h.2.2.2.2 k i j
def wI (h : HP) (k i j : Nat) (x : Int32) : HP := (h.1, h.2.1, (fun a b c => if a = k ∧ b = i ∧ c = j then x else h.2.2.1 a b c), h.2.2.2.1, h.2.2.2.2)
def wJ (h : HP) (k i j : Nat) (x : Int64) : HP := (h.1, h.2.1, h.2.2.1, (fun a b c => if a = k ∧ b = i ∧ c = j then x else h.2.2.2.1 a b c), h.2.2.2.2)
def wP (h : HP) (k i j : Nat) (x : Option Nat) : HP := (h.1, h.2.1, h.2.2.1, h.2.2.2.1, (fun a b c => if a = k ∧ b = i ∧ c = j then x else h.2.2.2.2 a b c))
def wN (h : HP) (k j n : Nat) : HP := ((fun a c => if a = k ∧ c = j then true else h.1 a c), (fun a c => if a = k ∧ c = j then n else h.2.1 a c), (fun a b c => if a = k ∧ c = j then 0 else h.2.2.1 a b c), (fun a b c => if a = k ∧ c = j then 0 else h.2.2.2.1 a b c), (fun a b c => if a = k ∧ c = j then none else h.2.2.2.2 a b c))
def wR (h : HP) (k j : Nat) (f : Nat → Int64) : HP := (h.1, h.2.1, h.2.2.1, (fun a b c => if a = k ∧ c = j then f b else h.2.2.2.1 a b c), h.2.2.2.2)
theorem mA_wI (h : HP) (k i j : Nat) (x : Int32) (a c : Nat) : mA (wI h k i j x) a c = mA h a c := rfl
theorem mA_wJ (h : HP) (k i j : Nat) (x : Int64) (a c : Nat) : mA (wJ h k i j x) a c = mA h a c := rfl
theorem mA_wP (h : HP) (k i j : Nat) (x : Option Nat) (a c : Nat) : mA (wP h k i j x) a c = mA h a c := rfl
theorem mA_wR (h : HP) (k j : Nat) (f : Nat → Int64) (a c : Nat) : mA (wR h k j f) a c = mA h a c := rfl
theorem mA_wN (h : HP) (k j n : Nat) (a c : Nat) : mA (wN h k j n) a c = if a = k ∧ c = j then true else mA h a c := rfl
theorem mL_wI (h : HP) (k i j : Nat) (x : Int32) (a c : Nat) : mL (wI h k i j x) a c = mL h a c := rfl
theorem mL_wJ (h : HP) (k i j : Nat) (x : Int64) (a c : Nat) : mL (wJ h k i j x) a c = mL h a c := rfl
theorem mL_wP (h : HP) (k i j : Nat) (x : Option Nat) (a c : Nat) : mL (wP h k i j x) a c = mL h a c := rfl
theorem mL_wR (h : HP) (k j : Nat) (f : Nat → Int64) (a c : Nat) : mL (wR h k j f) a c = mL h a c := rfl
theorem mL_wN (h : HP) (k j n : Nat) (a c : Nat) : mL (wN h k j n) a c = if a = k ∧ c = j then n else mL h a c := rfl
theorem mI_wI (h : HP) (k i j : Nat) (x : Int32) (a b c : Nat) : mI (wI h k i j x) a b c = if a = k ∧ b = i ∧ c = j then x else mI h a b c := rfl
theorem mI_wJ (h : HP) (k i j : Nat) (x : Int64) (a b c : Nat) : mI (wJ h k i j x) a b c = mI h a b c := rfl
theorem mI_wP (h : HP) (k i j : Nat) (x : Option Nat) (a b c : Nat) : mI (wP h k i j x) a b c = mI h a b c := rfl
theorem mI_wR (h : HP) (k j : Nat) (f : Nat → Int64) (a b c : Nat) : mI (wR h k j f) a b c = mI h a b c := rfl
theorem mI_wN (h : HP) (k j n : Nat) (a b c : Nat) : mI (wN h k j n) a b c = if a = k ∧ c = j then 0 else mI h a b c := rfl
theorem mJ_wI (h : HP) (k i j : Nat) (x : Int32) (a b c : Nat) : mJ (wI h k i j x) a b c = mJ h a b c := rfl
theorem mJ_wJ (h : HP) (k i j : Nat) (x : Int64) (a b c : Nat) : mJ (wJ h k i j x) a b c = if a = k ∧ b = i ∧ c = j then x else mJ h a b c := rfl
theorem mJ_wP (h : HP) (k i j : Nat) (x : Option Nat) (a b c : Nat) : mJ (wP h k i j x) a b c = mJ h a b c := rfl
theorem mJ_wR (h : HP) (k j : Nat) (f : Nat → Int64) (a b c : Nat) : mJ (wR h k j f) a b c = if a = k ∧ c = j then f b else mJ h a b c := rfl
theorem mJ_wN (h : HP) (k j n : Nat) (a b c : Nat) : mJ (wN h k j n) a b c = if a = k ∧ c = j then 0 else mJ h a b c := rfl
theorem mP_wI (h : HP) (k i j : Nat) (x : Int32) (a b c : Nat) : mP (wI h k i j x) a b c = mP h a b c := rfl
theorem mP_wJ (h : HP) (k i j : Nat) (x : Int64) (a b c : Nat) : mP (wJ h k i j x) a b c = mP h a b c := rfl
theorem mP_wP (h : HP) (k i j : Nat) (x : Option Nat) (a b c : Nat) : mP (wP h k i j x) a b c = if a = k ∧ b = i ∧ c = j then x else mP h a b c := rfl
theorem mP_wR (h : HP) (k j : Nat) (f : Nat → Int64) (a b c : Nat) : mP (wR h k j f) a b c = mP h a b c := rfl
theorem mP_wN (h : HP) (k j n : Nat) (a b c : Nat) : mP (wN h k j n) a b c = if a = k ∧ c = j then none else mP h a b c := rfl
/-- a number's kind and its place among those of the kind -/
def kd (a : Nat) : Nat := a % 128
def ix (a : Nat) : Nat := a / 128
def ob (k j : Nat) : Nat := 128 * j + k
theorem kd_ob {k : Nat} (j : Nat) (h : k < 128) : kd (ob k j) = k := by unfold kd ob; omega
theorem ix_ob {k : Nat} (j : Nat) (h : k < 128) : ix (ob k j) = j := by unfold ix ob; omega
theorem ob_kd (a : Nat) : ob (kd a) (ix a) = a := by unfold kd ix ob; omega
theorem kd_lt (a : Nat) : kd a < 128 := by unfold kd; omega
theorem kx_ne {a b : Nat} (h : a ≠ b) : ¬ (kd a = kd b ∧ ix a = ix b) := fun q => h (by rw [← ob_kd a, ← ob_kd b, q.1, q.2])
/-- types of fields (kinds below 8) and of elements (kinds from 8 on) -/
def tyK (k i : Nat) : FieldType := match k with
  | 0 => tyX0 i
  | 1 => tyX1 i
  | 2 => tyX2 i
  | 3 => tyX3 i
  | 4 => tyX4 i
  | 5 => tyX5 i
  | 6 => tyX6 i
  | 7 => tyX7 i
  | k => if k < 80 then .int else if k < 88 then .boolean else if k < 96 then .long else if k = 96 then .object RX5 else if k = 97 then .object RX3 else if k = 98 then .object RX1 else .int
def nf (k : Nat) : Nat := match k with
  | 0 => 9
  | 1 => 10
  | 2 => 14
  | 3 => 8
  | 4 => 8
  | 5 => 9
  | 6 => 18
  | 7 => 48
  | _ => 0
theorem tyK_i {k : Nat} (i : Nat) (h : 8 ≤ k ∧ k < 80 ∨ k = 127) : tyK k i = .int := by
  unfold tyK
  split <;> first | omega | skip
  rcases h with h | rfl
  · rw [if_pos h.2]
  · rfl
theorem tyK_z {k : Nat} (i : Nat) (h : 80 ≤ k ∧ k < 88) : tyK k i = .boolean := by
  unfold tyK
  split <;> first | omega | skip
  rw [if_neg (by omega), if_pos h.2]
theorem tyK_l {k : Nat} (i : Nat) (h : 88 ≤ k ∧ k < 96) : tyK k i = .long := by
  unfold tyK
  split <;> first | omega | skip
  rw [if_neg (by omega), if_neg (by omega), if_pos h.2]
theorem tyK_j {k : Nat} (i j : Nat) (h : 8 ≤ k) : tyK k i = tyK k j := by
  unfold tyK
  split <;> first | omega | rfl
/-- what a field or an element holds -/
def mV (h : HP) (k i j : Nat) : Value := match tyK k i with
  | .long => .long (mJ h k i j)
  | .object _ => va_rf (mP h k i j)
  | .array _ => va_rf (mP h k i j)
  | _ => .int (mI h k i j)
theorem mV_i (h : HP) {k : Nat} (i j : Nat) (hk : 8 ≤ k ∧ k < 80 ∨ k = 127) : mV h k i j = .int (mI h k i j) := by unfold mV; rw [tyK_i i hk]
theorem mV_z (h : HP) {k : Nat} (i j : Nat) (hk : 80 ≤ k ∧ k < 88) : mV h k i j = .int (mI h k i j) := by unfold mV; rw [tyK_z i hk]
theorem mV_l (h : HP) {k : Nat} (i j : Nat) (hk : 88 ≤ k ∧ k < 96) : mV h k i j = .long (mJ h k i j) := by unfold mV; rw [tyK_l i hk]
theorem mV_p (h : HP) {k : Nat} (i j : Nat) (hk : k = 96 ∨ k = 97 ∨ k = 98) : mV h k i j = va_rf (mP h k i j) := by rcases hk with rfl | rfl | rfl <;> rfl
theorem mV_eq {h h' : HP} {k i j : Nat} (e1 : mI h' k i j = mI h k i j) (e2 : mJ h' k i j = mJ h k i j) (e3 : mP h' k i j = mP h k i j) : mV h' k i j = mV h k i j := by unfold mV; rw [e1, e2, e3]
/-- values of mine beside the machine's -/
def VR (Rl : Nat → Nat → Prop) (u v : Value) : Prop := match u with
  | .ref i => ∃ a, v = .ref a ∧ Rl i a
  | u => v = u
def VL (Rl : Nat → Nat → Prop) : List Value → List Value → Prop
  | [], [] => True
  | u :: us, v :: vs => VR Rl u v ∧ VL Rl us vs
  | _, _ => False
theorem VR.mono {Rl Rl' : Nat → Nat → Prop} (hm : ∀ i a, Rl i a → Rl' i a) {u v : Value} (h : VR Rl u v) : VR Rl' u v := by
  cases u with
  | ref i =>
    obtain ⟨a, h1, h2⟩ := h
    exact ⟨a, h1, hm _ _ h2⟩
  | _ => exact h
theorem VL.mono {Rl Rl' : Nat → Nat → Prop} (hm : ∀ i a, Rl i a → Rl' i a) : ∀ {us vs : List Value}, VL Rl us vs → VL Rl' us vs
  | [], [], _ => trivial
  | _ :: _, _ :: _, h => ⟨h.1.mono hm, VL.mono hm h.2⟩
theorem VL.app {Rl : Nat → Nat → Prop} : ∀ {us vs us' vs' : List Value}, VL Rl us vs → VL Rl us' vs' → VL Rl (us ++ us') (vs ++ vs')
  | [], [], _, _, _, h => h
  | _ :: _, _ :: _, _, _, h, h' => ⟨h.1, VL.app h.2 h'⟩
theorem VL.len {Rl : Nat → Nat → Prop} : ∀ {us vs : List Value}, VL Rl us vs → vs.length = us.length
  | [], [], _ => rfl
  | _ :: _, _ :: _, h => by simp only [List.length_cons]; rw [VL.len h.2]
theorem VL.rev {Rl : Nat → Nat → Prop} : ∀ {us vs : List Value}, VL Rl us vs → VL Rl us.reverse vs.reverse
  | [], [], _ => trivial
  | u :: us, v :: vs, h => by
    rw [List.reverse_cons, List.reverse_cons]
    exact (VL.rev h.2).app ⟨h.1, trivial⟩
theorem VL.take {Rl : Nat → Nat → Prop} : ∀ (n : Nat) {us vs : List Value}, VL Rl us vs → VL Rl (us.take n) (vs.take n)
  | 0, _, _, _ => by simp only [List.take_zero]; exact trivial
  | _ + 1, [], [], _ => trivial
  | n + 1, _ :: _, _ :: _, h => ⟨h.1, VL.take n h.2⟩
theorem VL.drop {Rl : Nat → Nat → Prop} : ∀ (n : Nat) {us vs : List Value}, VL Rl us vs → VL Rl (us.drop n) (vs.drop n)
  | 0, _, _, h => by simp only [List.drop_zero]; exact h
  | _ + 1, [], [], _ => trivial
  | n + 1, _ :: _, _ :: _, h => VL.drop n h.2
theorem VR.cat {Rl : Nat → Nat → Prop} {u v : Value} (h : VR Rl u v) : v.category = u.category := by
  cases u with
  | ref i =>
    obtain ⟨a, h1, h2⟩ := h
    rw [h1]
    rfl
  | _ => rw [show v = _ from h]
theorem VL.nil' {Rl : Nat → Nat → Prop} {vs : List Value} (h : VL Rl [] vs) : vs = [] := by
  cases vs with
  | nil => rfl
  | cons _ _ => exact h.elim
theorem VL.cons' {Rl : Nat → Nat → Prop} {u : Value} {us vs : List Value} (h : VL Rl (u :: us) vs) : ∃ v vs', vs = v :: vs' ∧ VR Rl u v ∧ VL Rl us vs' := by
  cases vs with
  | nil => exact h.elim
  | cons v vs' => exact ⟨v, vs', rfl, h.1, h.2⟩
theorem VL.int' {Rl : Nat → Nat → Prop} {x : Int32} {us vs : List Value} (h : VL Rl (.int x :: us) vs) : ∃ vs', vs = .int x :: vs' ∧ VL Rl us vs' := by
  obtain ⟨v, vs', rfl, h1, h2⟩ := h.cons'
  exact ⟨vs', by rw [show v = _ from h1], h2⟩
theorem VL.long' {Rl : Nat → Nat → Prop} {x : Int64} {us vs : List Value} (h : VL Rl (.long x :: us) vs) : ∃ vs', vs = .long x :: vs' ∧ VL Rl us vs' := by
  obtain ⟨v, vs', rfl, h1, h2⟩ := h.cons'
  exact ⟨vs', by rw [show v = _ from h1], h2⟩
theorem VL.null' {Rl : Nat → Nat → Prop} {us vs : List Value} (h : VL Rl (.null :: us) vs) : ∃ vs', vs = .null :: vs' ∧ VL Rl us vs' := by
  obtain ⟨v, vs', rfl, h1, h2⟩ := h.cons'
  exact ⟨vs', by rw [show v = _ from h1], h2⟩
theorem VL.ref' {Rl : Nat → Nat → Prop} {i : Nat} {us vs : List Value} (h : VL Rl (.ref i :: us) vs) : ∃ a vs', vs = .ref a :: vs' ∧ Rl i a ∧ VL Rl us vs' := by
  obtain ⟨v, vs', rfl, ⟨a, h1, h3⟩, h2⟩ := h.cons'
  exact ⟨a, vs', by rw [h1], h3, h2⟩
def isR (v : Value) : Prop := match v with
  | .ref _ => True
  | .null => True
  | _ => False
theorem isR_rf (o : Option Nat) : isR (va_rf o) = True := by cases o <;> rfl
theorem VR.rf {Rl : Nat → Nat → Prop} {o : Option Nat} {v : Value} (h : VR Rl (va_rf o) v) : (o = none ∧ v = .null) ∨ ∃ i a, o = some i ∧ v = .ref a ∧ Rl i a := by
  cases o with
  | none => exact Or.inl ⟨rfl, h⟩
  | some i =>
    obtain ⟨a, h1, h2⟩ := h
    exact Or.inr ⟨i, a, rfl, h1, h2⟩
theorem VR.isR {Rl : Nat → Nat → Prop} {u v : Value} (h : VR Rl u v) (hu : isR u) : (u = .null ∧ v = .null) ∨ ∃ i a, u = .ref i ∧ v = .ref a ∧ Rl i a := by
  cases u with
  | null => exact Or.inl ⟨rfl, h⟩
  | ref i =>
    obtain ⟨a, h1, h2⟩ := h
    exact Or.inr ⟨i, a, rfl, h1, h2⟩
  | _ => exact hu.elim
/-- locals: by their places; jk stands where nothing is said -/
def jk : Value := .float 0
def isJ (v : Value) : Bool := match v with
  | .float _ => true
  | _ => false
def nth : List Value → Nat → Value
  | [], _ => jk
  | a :: _, 0 => a
  | _ :: l, n + 1 => nth l n
theorem nth_get : ∀ {l : List Value} {n : Nat}, isJ (nth l n) = false → l[n]? = some (nth l n)
  | [], _, h => by cases h
  | _ :: _, 0, _ => rfl
  | _ :: l, n + 1, h => by
    rw [List.getElem?_cons_succ]
    exact nth_get (l := l) h
def unl (v : Value) : Value := match v with
  | .long _ => jk
  | .double _ => jk
  | v => v
theorem unl_i (x : Int32) : unl (.int x) = .int x := rfl
theorem unl_l (x : Int64) : unl (.long x) = jk := rfl
theorem unl_r (x : Nat) : unl (.ref x) = .ref x := rfl
theorem unl_n : unl .null = .null := rfl
theorem unl_j : unl jk = jk := rfl
theorem unl_rf (o : Option Nat) : unl (va_rf o) = va_rf o := by cases o <;> rfl
theorem unl_c {v : Value} (h : isJ (unl v) = false) : unl v = v ∧ v.category = 1 := by
  cases v <;> first | exact ⟨rfl, rfl⟩ | cases h
def lset : List Value → Nat → Value → List Value
  | [], _, _ => []
  | _ :: l, 0, v => v :: l
  | a :: l, 1, v => unl a :: lset l 0 v
  | a :: l, i + 2, v => a :: lset l (i + 1) v
theorem lset_get : ∀ {l : List Value} {i k : Nat} {v w : Value}, (lset l i v)[k]? = some w → isJ w = false → (k = i ∧ w = v) ∨ (k ≠ i ∧ l[k]? = some w ∧ (k + 1 = i → w.category = 1))
  | [], _, _, _, _, h, _ => by simp [lset] at h
  | a :: l, 0, k, v, w, h, _ => by
    cases k with
    | zero =>
      simp only [lset, List.getElem?_cons_zero, Option.some.injEq] at h
      exact Or.inl ⟨rfl, h.symm⟩
    | succ k =>
      simp only [lset, List.getElem?_cons_succ] at h
      exact Or.inr ⟨by omega, by rw [List.getElem?_cons_succ]; exact h, fun q => by omega⟩
  | a :: l, 1, k, v, w, h, hj => by
    cases k with
    | zero =>
      simp only [lset, List.getElem?_cons_zero, Option.some.injEq] at h
      subst h
      obtain ⟨h1, h2⟩ := unl_c hj
      exact Or.inr ⟨by omega, by rw [List.getElem?_cons_zero, h1], fun _ => by rw [h1]; exact h2⟩
    | succ k =>
      simp only [lset, List.getElem?_cons_succ] at h
      rcases lset_get h hj with ⟨h1, h2⟩ | ⟨h1, h2, h3⟩
      · exact Or.inl ⟨by omega, h2⟩
      · exact Or.inr ⟨by omega, by rw [List.getElem?_cons_succ]; exact h2, fun q => by omega⟩
  | a :: l, i + 2, k, v, w, h, hj => by
    cases k with
    | zero =>
      simp only [lset, List.getElem?_cons_zero, Option.some.injEq] at h
      exact Or.inr ⟨by omega, by rw [List.getElem?_cons_zero, h], fun q => by omega⟩
    | succ k =>
      simp only [lset, List.getElem?_cons_succ] at h
      rcases lset_get h hj with ⟨h1, h2⟩ | ⟨h1, h2, h3⟩
      · exact Or.inl ⟨by omega, h2⟩
      · exact Or.inr ⟨by omega, by rw [List.getElem?_cons_succ]; exact h2, fun q => h3 (by omega)⟩
def lset2 (l : List Value) (i : Nat) (v : Value) : List Value := (lset l i v).set (i + 1) jk
theorem lset2_get {l : List Value} {i k : Nat} {v w : Value} (h : (lset2 l i v)[k]? = some w) (hj : isJ w = false) : (k = i ∧ w = v) ∨ (k ≠ i ∧ k ≠ i + 1 ∧ l[k]? = some w ∧ (k + 1 = i → w.category = 1)) := by
  unfold lset2 at h
  by_cases hk : k = i + 1
  · subst hk
    rw [List.getElem?_set] at h
    simp only [if_true] at h
    split at h
    · cases h; cases hj
    · cases h
  · rw [List.getElem?_set_ne (fun q => hk q.symm)] at h
    rcases lset_get h hj with h1 | ⟨h1, h2, h3⟩
    · exact Or.inl h1
    · exact Or.inr ⟨h1, hk, h2, h3⟩
def LL (Rl : Nat → Nat → Prop) (ls : List Value) (lsC : Array Slot) (nL : Nat) : Prop := lsC.size = nL ∧ lv_wf lsC ∧ ∀ (i : Nat) (v : Value), ls[i]? = some v → isJ v = false → ∃ v', lsC[i]? = some (.val v') ∧ VR Rl v v'
theorem LL.mono {Rl Rl' : Nat → Nat → Prop} (hm : ∀ i a, Rl i a → Rl' i a) {ls : List Value} {lsC : Array Slot} {nL : Nat} (h : LL Rl ls lsC nL) : LL Rl' ls lsC nL :=
  ⟨h.1, h.2.1, fun i v h1 h2 => by obtain ⟨v', h3, h4⟩ := h.2.2 i v h1 h2; exact ⟨v', h3, h4.mono hm⟩⟩
/-- all that the machine's locals hold -/
def allL (lsC : Array Slot) (nL : Nat) : List (Nat × Value) := (List.range nL).filterMap fun i => match lsC[i]? with
  | some (Slot.val v) => some (i, v)
  | _ => none
theorem allL_mem {lsC : Array Slot} {nL i : Nat} {v : Value} : (i, v) ∈ allL lsC nL ↔ i < nL ∧ lsC[i]? = some (.val v) := by
  unfold allL
  rw [List.mem_filterMap]
  constructor
  · rintro ⟨k, hk, h⟩
    rw [List.mem_range] at hk
    split at h
    · rename_i w hw
      cases h
      exact ⟨hk, hw⟩
    · cases h
  · rintro ⟨h1, h2⟩
    exact ⟨i, List.mem_range.mpr h1, by rw [h2]⟩
theorem LL.all {Rl : Nat → Nat → Prop} {ls : List Value} {lsC : Array Slot} {nL : Nat} (h : LL Rl ls lsC nL) : lv_has lsC nL (allL lsC nL) :=
  ⟨h.1, h.2.1, fun q hq => (allL_mem.mp hq).2⟩
theorem LL.lt {Rl : Nat → Nat → Prop} {ls : List Value} {lsC : Array Slot} {nL i : Nat} {z : Slot} (h : LL Rl ls lsC nL) (hz : lsC[i]? = some z) : i < nL := by
  rw [← h.1]
  exact (Array.getElem?_eq_some_iff.mp hz).1
theorem LL.st1 {Rl : Nat → Nat → Prop} {ls : List Value} {lsC ls' : Array Slot} {nL i : Nat} {v v' : Value} (h : LL Rl ls lsC nL) (hv : VR Rl v v')
    (h' : lv_has ls' nL ((i, v') :: (allL lsC nL).filter (fun q => !(q.1 == i) && !(q.1 + 1 == i && q.2.category == 2)))) : LL Rl (lset ls i v) ls' nL := by
  refine ⟨h'.1, h'.2.1, fun k w hk hj => ?_⟩
  rcases lset_get hk hj with ⟨rfl, rfl⟩ | ⟨h1, h2, h3⟩
  · exact ⟨v', h'.2.2 (k, v') List.mem_cons_self, hv⟩
  · obtain ⟨w', h4, h5⟩ := h.2.2 k w h2 hj
    refine ⟨w', h'.2.2 (k, w') (List.mem_cons_of_mem _ (List.mem_filter.mpr ⟨allL_mem.mpr ⟨h.lt h4, h4⟩, ?_⟩)), h5⟩
    have h6 := h5.cat
    by_cases hki : k + 1 = i
    · have := h3 hki
      rw [this] at h6
      simp [h1, h6]
    · simp [h1, hki]
theorem LL.st2 {Rl : Nat → Nat → Prop} {ls : List Value} {lsC ls' : Array Slot} {nL i : Nat} {v v' : Value} (h : LL Rl ls lsC nL) (hv : VR Rl v v')
    (h' : lv_has ls' nL ((i, v') :: (allL lsC nL).filter (fun q => !(q.1 == i) && (!(q.1 == i + 1) && !(q.1 + 1 == i && q.2.category == 2))))) : LL Rl (lset2 ls i v) ls' nL := by
  refine ⟨h'.1, h'.2.1, fun k w hk hj => ?_⟩
  rcases lset2_get hk hj with ⟨rfl, rfl⟩ | ⟨h1, h2, h2', h3⟩
  · exact ⟨v', h'.2.2 (k, v') List.mem_cons_self, hv⟩
  · obtain ⟨w', h4, h5⟩ := h.2.2 k w h2' hj
    refine ⟨w', h'.2.2 (k, w') (List.mem_cons_of_mem _ (List.mem_filter.mpr ⟨allL_mem.mpr ⟨h.lt h4, h4⟩, ?_⟩)), h5⟩
    have h6 := h5.cat
    by_cases hki : k + 1 = i
    · have := h3 hki
      rw [this] at h6
      simp [h1, h2, h6]
    · simp [h1, h2, hki]
/-- classes: by kinds; array classes: by kinds -/
abbrev DD : Type := (Nat → ClassId) × (Nat → Nat → Nat) × (Nat → ClassId)
def CRel (D : DD) (Rl : Nat → Nat → Prop) (s : State) (h : HP) (k j a : Nat) (H : Heap) : Prop :=
  if k < 8 then ∃ V : Nat → Value, t_OB a (D.1 k) (nf k) (D.2.1 k) H V ∧ ∀ i, i < nf k → VR Rl (mV h k i j) (V i)
  else if k = 127 then va_X a (mL h k j) (fun i => mI h k i j) s H
  else ∃ V : Nat → Value, H[a]? = some (arrV (D.2.2 k) (mL h k j) V) ∧ ∀ i, i < mL h k j → VR Rl (mV h k i j) (V i)
theorem CRel.lt {D : DD} {Rl : Nat → Nat → Prop} {s : State} {h : HP} {k j a : Nat} {H : Heap} (hc : CRel D Rl s h k j a H) : a < H.size := by
  unfold CRel at hc
  split at hc
  · obtain ⟨V, ⟨cell, h1, -⟩, -⟩ := hc
    exact (Array.getElem?_eq_some_iff.mp h1).1
  · split at hc
    · obtain ⟨scr, h1, -⟩ := hc
      exact (Array.getElem?_eq_some_iff.mp h1).1
    · obtain ⟨V, h1, -⟩ := hc
      exact (Array.getElem?_eq_some_iff.mp h1).1
theorem CRel.kept {D : DD} {Rl Rl' : Nat → Nat → Prop} {s s' : State} {h h' : HP} {k j a : Nat} {H H1 : Heap} (hc : CRel D Rl s h k j a H) (hvm : s.vm.Alike s'.vm) (hm : ∀ i a, Rl i a → Rl' i a) (hq : H1[a]? = H[a]?)
    (e0 : mL h' k j = mL h k j) (e1 : ∀ i, mI h' k i j = mI h k i j) (e2 : ∀ i, mJ h' k i j = mJ h k i j) (e3 : ∀ i, mP h' k i j = mP h k i j) : CRel D Rl' s' h' k j a H1 := by
  unfold CRel at hc ⊢
  split at hc
  · rename_i hk
    rw [if_pos hk]
    obtain ⟨V, h1, h2⟩ := hc
    exact ⟨V, h1.kept hq, fun i hi => by rw [mV_eq (e1 i) (e2 i) (e3 i)]; exact (h2 i hi).mono hm⟩
  · rename_i hk
    rw [if_neg hk]
    split at hc
    · rename_i hk2
      rw [if_pos hk2, e0, show (fun i => mI h' k i j) = (fun i => mI h k i j) from funext e1]
      exact (hc.kept hq).moved hvm
    · rename_i hk2
      rw [if_neg hk2, e0]
      obtain ⟨V, h1, h2⟩ := hc
      exact ⟨V, hq.trans h1, fun i hi => by rw [mV_eq (e1 i) (e2 i) (e3 i)]; exact (h2 i hi).mono hm⟩
def HR (D : DD) (Rl : Nat → Nat → Prop) (base : Nat) (s : State) (h : HP) (H : Heap) : Prop :=
  (∀ i a a', Rl i a → Rl i a' → a = a') ∧ (∀ i i' a, Rl i a → Rl i' a → i = i') ∧ ∀ i a, Rl i a → mA h (kd i) (ix i) = true ∧ (kd i ≠ 127 → base ≤ a) ∧ CRel D Rl s h (kd i) (ix i) a H
theorem HR.moved {D : DD} {Rl : Nat → Nat → Prop} {base : Nat} {s s' : State} {h : HP} {H : Heap} (hvm : s.vm.Alike s'.vm) (hr : HR D Rl base s h H) : HR D Rl base s' h H :=
  ⟨hr.1, hr.2.1, fun i a q => ⟨(hr.2.2 i a q).1, (hr.2.2 i a q).2.1, (hr.2.2 i a q).2.2.kept hvm (fun _ _ z => z) rfl rfl (fun _ => rfl) (fun _ => rfl) (fun _ => rfl)⟩⟩
/-- a cell is written -/
theorem HR.wr {D : DD} {Rl : Nat → Nat → Prop} {base : Nat} {s : State} {h h' : HP} {H H1 : Heap} (hr : HR D Rl base s h H) {id a : Nat} (hid : Rl id a) (oq : ∀ q, q ≠ a → H1[q]? = H[q]?)
    (hA : ∀ k j, mA h' k j = mA h k j) (hs : ∀ k j, ¬ (k = kd id ∧ j = ix id) → mL h' k j = mL h k j ∧ ∀ i, mI h' k i j = mI h k i j ∧ mJ h' k i j = mJ h k i j ∧ mP h' k i j = mP h k i j)
    (hc : CRel D Rl s h' (kd id) (ix id) a H1) : HR D Rl base s h' H1 := by
  refine ⟨hr.1, hr.2.1, fun i b hb => ?_⟩
  obtain ⟨h1, h2, h3⟩ := hr.2.2 i b hb
  refine ⟨by rw [hA]; exact h1, h2, ?_⟩
  by_cases hi : i = id
  · subst hi
    rw [hr.1 i b a hb hid]
    exact hc
  · have hba : b ≠ a := fun q => hi (hr.2.1 i id a (q ▸ hb) hid)
    obtain ⟨g0, g1⟩ := hs (kd i) (ix i) (kx_ne hi)
    exact h3.kept (Vm.Alike.refl _) (fun _ _ z => z) (oq b hba) g0 (fun x => (g1 x).1) (fun x => (g1 x).2.1) (fun x => (g1 x).2.2)
/-- a cell is made -/
theorem HR.al {D : DD} {Rl : Nat → Nat → Prop} {base : Nat} {s : State} {h h' : HP} {H H1 : Heap} (hr : HR D Rl base s h H) {k j : Nat} (hk : k < 128) (hk2 : k ≠ 127) (hf : mA h k j = false) (hb : base ≤ H.size) (oq : ∀ q, q < H.size → H1[q]? = H[q]?)
    (hA : ∀ a c, mA h' a c = if a = k ∧ c = j then true else mA h a c) (hs : ∀ a c, ¬ (a = k ∧ c = j) → mL h' a c = mL h a c ∧ ∀ i, mI h' a i c = mI h a i c ∧ mJ h' a i c = mJ h a i c ∧ mP h' a i c = mP h a i c)
    (hc : CRel D (fun i a => Rl i a ∨ (i = ob k j ∧ a = H.size)) s h' k j H.size H1) : HR D (fun i a => Rl i a ∨ (i = ob k j ∧ a = H.size)) base s h' H1 := by
  have key : ∀ a, ¬ Rl (ob k j) a := fun a q => by
    have h1 := (hr.2.2 _ a q).1
    rw [kd_ob j hk, ix_ob j hk, hf] at h1
    cases h1
  have lt : ∀ i a, Rl i a → a < H.size := fun i a q => (hr.2.2 i a q).2.2.lt
  refine ⟨fun i a a' p q => ?_, fun i i' a p q => ?_, fun i a p => ?_⟩
  · rcases p with p | ⟨rfl, rfl⟩ <;> rcases q with q | ⟨q1, rfl⟩
    · exact hr.1 i a a' p q
    · rw [q1] at p; exact (key _ p).elim
    · exact (key _ q).elim
    · rfl
  · rcases p with p | ⟨rfl, rfl⟩ <;> rcases q with q | ⟨rfl, q2⟩
    · exact hr.2.1 i i' a p q
    · have := lt _ _ p; omega
    · have := lt _ _ q; omega
    · rfl
  · rcases p with p | ⟨rfl, rfl⟩
    · obtain ⟨h1, h2, h3⟩ := hr.2.2 i a p
      have hne : ¬ (kd i = k ∧ ix i = j) := fun q => by
        rw [q.1, q.2, hf] at h1
        cases h1
      obtain ⟨g0, g1⟩ := hs (kd i) (ix i) hne
      exact ⟨by rw [hA, if_neg hne]; exact h1, h2, h3.kept (Vm.Alike.refl _) (fun _ _ z => Or.inl z) (oq a (lt _ _ p)) g0 (fun x => (g1 x).1) (fun x => (g1 x).2.1) (fun x => (g1 x).2.2)⟩
    · rw [kd_ob j hk, ix_ob j hk]
      exact ⟨by rw [hA, if_pos ⟨rfl, rfl⟩], fun _ => hb, hc⟩
end ZMEM
