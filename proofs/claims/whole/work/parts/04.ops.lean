/-! Instructions as steps of a calculation over the typed memory, and that the machine goes along -/
def TB : List Cond := lw_tbl.filter goodWord
def TN : List (String × Nat × MethodName) := [(RX6, 41, yX2_init), (RX6, 48, yX4_init), (RX2, 49, yX6_put), (RX2, 61, yX6_at), (RX2, 65, yX6_wayBehind), (RX2, 69, yX6_costOf), (RX3, 31, yX6_put), (RX4, 33, yX6_put), (RX4, 56, yX6_at_), (RX4, 60, yX6_at), (RX5, 44, yX6_at_)]
theorem TB_mem {w : Cond} (i : Nat) (h : lw_tbl[i]? = some w) (hg : goodWord w = true) : w ∈ TB := List.mem_filter.mpr ⟨List.mem_of_getElem? h, hg⟩
theorem TB_good {ws : List Cond} (h : ∀ w ∈ ws, w ∈ TB) : GoodIn TB ws := fun w hw => ⟨h w hw, good_of_word (List.mem_filter.mp (h w hw)).2⟩
def KK (D : DD) (U : State) : Prop := va_K (D.1, D.2.1) vwCl [] U ∧ (∀ k, 8 ≤ k → ArrOfT U (D.2.2 k) (tyK k 0) ∧ va_RA U (D.2.2 k) (tyK k 0)) ∧ (∀ q ∈ TN, va_Nw (.methodLinkNest q.1 q.2.1 q.2.2 "TapeHall") U) ∧ ∀ C ∈ [RX5, RX3, RX1], va_AO C U
theorem KK.moved {D : DD} {s U : State} (hW : s.WarmedH U.vm) (h : KK D s) : KK D U :=
  ⟨va_K.moved hW.alike h.1, fun k hk => ⟨arrOfT_moved hW.alike (h.2.1 k hk).1, (h.2.1 k hk).2.moved hW.alike⟩, fun q hq => va_Nw.warmM hW (h.2.2.1 q hq), fun C hC => (h.2.2.2 C hC).moved hW.alike⟩
theorem KK.same {D : DD} {u U : State} (hv : u.vm = U.vm) (h : KK D u) : KK D U :=
  ⟨va_K.moved (by rw [hv]; exact Vm.Alike.refl _) h.1, fun k hk => ⟨arrOfT_moved (by rw [hv]; exact Vm.Alike.refl _) (h.2.1 k hk).1, (h.2.1 k hk).2.moved (by rw [hv]; exact Vm.Alike.refl _)⟩, fun q hq => va_Nw.same rfl hv (h.2.2.1 q hq), fun C hC => (h.2.2.2 C hC).moved (by rw [hv]; exact Vm.Alike.refl _)⟩
abbrev KT : Type := List Value → List Value → HP → Nat → Nat → Prop
def AL (h : HP) (k a : Nat) : Prop := kd a = k ∧ mA h k (ix a) = true
def isAI (k : Nat) : Prop := 8 ≤ k ∧ k < 80
def orf (v : Value) : Option Nat := match v with
  | .ref b => some b
  | _ => none
theorem orf_r (b : Nat) : orf (.ref b) = some b := rfl
theorem orf_n : orf .null = none := rfl
theorem orf_rf (o : Option Nat) : orf (va_rf o) = o := by cases o <;> rfl
def rmk (d mc ms : Nat) : Room := { frames := d, cells := mc, slots := ms, locals := 40 * d }
abbrev wsm (y : MethodName) (cb : ByteArray) (mx : Nat) (ret : Option FieldType) : List Cond := .code y cb mx ret :: TB
def PcR (D : DD) (base : Nat) (Rl : Nat → Nat → Prop) (asC : List Value) (h : HP) : Array Value → State → Prop := fun v U => v = asC.toArray ∧ base ≤ U.heap.size ∧ KK D U ∧ HR D Rl base U h U.heap
def QcR (D : DD) (base : Nat) (Rl : Nat → Nat → Prop) (Qp : List Value → HP → Prop) : Array Value → State → Outcome → State → Prop := fun _ st o t =>
  (∃ (Rl' : Nat → Nat → Prop) (r : List Value) (rC : Option Value) (h' : HP), (∀ i a, Rl i a → Rl' i a) ∧ o = .returned rC ∧ VL Rl' r rC.toList ∧ HR D Rl' base t h' t.heap ∧ Qp r h') ∧ va_F (fun q => base ≤ q) st t
/-- a method called with these values of mine in this memory comes to an end with Qp -/
def Cn (l : Launch) (D : DD) (d : Nat) (y : MethodName) (cb : ByteArray) (mx : Nat) (ret : Option FieldType) (mc ms : Nat) (as : List Value) (h : HP) (Qp : List Value → HP → Prop) : Prop :=
  ∀ (base : Nat) (Rl : Nat → Nat → Prop) (asC : List Value), VL Rl as asC → Met l y (wsm y cb mx ret) (rmk d mc ms) (PcR D base Rl asC h) (QcR D base Rl Qp) mc ms (fun q => base ≤ q)
theorem PcR.blind {D : DD} {base : Nat} {Rl : Nat → Nat → Prop} {asC : List Value} {h : HP} : FrameBlind (PcR D base Rl asC h) := by
  rintro a U g mk ⟨h1, h2, h3, h4⟩
  exact ⟨h1, h2, h3.same (u := U) (U := U.calling g mk a) rfl, h4.moved (s := U) (s' := U.calling g mk a) (Vm.Alike.refl U.vm)⟩
def Wm (p : Program) (l : Launch) (e : Env) (R : Room) (s : State) (m : MethodId) (args : Array Value) (below : List Frame) (meth : Method) (c : Code) (Q : State → Prop) (D : DD) (base nL : Nat) (Rl0 : Nat → Nat → Prop) (pc : Nat) : KT := fun ls st h n1 n2 =>
  n1 ≤ R.cells → n2 ≤ R.slots → ∀ (Rl : Nat → Nat → Prop) (H : Heap) (locs : List Loc) (lsC : Array Slot) (stC : List Value), (∀ i a, Rl0 i a → Rl i a) → HR D Rl base s h H → VL Rl st stC → LL Rl ls lsC nL → va_S (fun q => base ≤ q) s.heap H locs →
    W p l e R s m args below meth c H locs n1 n2 Q (F0 m pc lsC stC)
def Sd (p : Program) (l : Launch) (e : Env) (R : Room) (s : State) (m : MethodId) (args : Array Value) (below : List Frame) (meth : Method) (c : Code) (Q : State → Prop) (D : DD) (base nL : Nat) (Rl0 : Nat → Nat → Prop) (pc : Nat) (K : KT) : Prop :=
  ∀ ls st h n1 n2, K ls st h n1 n2 → Wm p l e R s m args below meth c Q D base nL Rl0 pc ls st h n1 n2
def CX (p : Program) (R : Room) (s : State) (m : MethodId) (args : Array Value) (c : Code) (D : DD) (base nL : Nat) (cc : ByteArray) (own : String) (d : Nat) : Prop :=
  p.tables.exec = Jvm.exec ∧ c.code = cc ∧ c.maxLocals = nL ∧ s.vm.findClass own = some m.cls ∧ (∀ w ∈ TB, w.before args s = true) ∧ KK D s ∧ base ≤ s.heap.size ∧ d + 1 ≤ R.frames ∧ 40 * d + 40 ≤ R.locals
section ZOPS
variable {p : Program} {l : Launch} {e : Env} {R : Room} {s : State} {m : MethodId} {args : Array Value} {below : List Frame} {meth : Method} {c : Code} {Q : State → Prop} {D : DD} {base nL : Nat} {Rl0 : Nat → Nat → Prop} {cc : ByteArray} {own : String} {d pc : Nat} {K : KT}
theorem s_J (X : Nat → KT) (hX : ∀ pc ls st h n1 n2, X pc ls st h n1 n2 → Wm p l e R s m args below meth c Q D base nL Rl0 pc ls st h n1 n2) (pc : Nat) : Sd p l e R s m args below meth c Q D base nL Rl0 pc (X pc) := hX pc
/-! constants -/
def o_ic (v : Int32) (K : KT) : KT := fun ls st h n1 n2 => K ls (.int v :: st) h n1 n2
def o_lc (v : Int64) (K : KT) : KT := fun ls st h n1 n2 => K ls (.long v :: st) h n1 n2
def o_null (K : KT) : KT := fun ls st h n1 n2 => K ls (.null :: st) h n1 n2
theorem s_iconst (C : CX p R s m args c D base nL cc own d) {n : Int} {v : Int32} (hd : decode cc pc = .ok (.iconst n, 1)) (hv : Int32.ofInt n = v) (hk : Sd p l e R s m args below meth c Q D base nL Rl0 (pc + 1) K) : Sd p l e R s m args below meth c Q D base nL Rl0 pc (o_ic v K) :=
  fun ls st h n1 n2 ho z1 z2 Rl H locs lsC stC hm hr hv' hl hS => lv_iconst C.1 C.2.1 hd hv (hk _ _ _ _ _ ho z1 z2 Rl H locs lsC _ hm hr ⟨rfl, hv'⟩ hl hS)
theorem s_bipush (C : CX p R s m args c D base nL cc own d) {n : Int} {v : Int32} (hd : decode cc pc = .ok (.bipush n, 2)) (hv : (Int8.ofInt n).toInt32 = v) (hk : Sd p l e R s m args below meth c Q D base nL Rl0 (pc + 2) K) : Sd p l e R s m args below meth c Q D base nL Rl0 pc (o_ic v K) :=
  fun ls st h n1 n2 ho z1 z2 Rl H locs lsC stC hm hr hv' hl hS => lv_bipush C.1 C.2.1 hd hv (hk _ _ _ _ _ ho z1 z2 Rl H locs lsC _ hm hr ⟨rfl, hv'⟩ hl hS)
theorem s_sipush (C : CX p R s m args c D base nL cc own d) {n : Int} {v : Int32} (hd : decode cc pc = .ok (.sipush n, 3)) (hv : (Int16.ofInt n).toInt32 = v) (hk : Sd p l e R s m args below meth c Q D base nL Rl0 (pc + 3) K) : Sd p l e R s m args below meth c Q D base nL Rl0 pc (o_ic v K) :=
  fun ls st h n1 n2 ho z1 z2 Rl H locs lsC stC hm hr hv' hl hS => lv_sipush C.1 C.2.1 hd hv (hk _ _ _ _ _ ho z1 z2 Rl H locs lsC _ hm hr ⟨rfl, hv'⟩ hl hS)
theorem s_ldc (C : CX p R s m args c D base nL cc own d) {ci : Nat} {v : Int32} (hw : Cond.constant own ci v ∈ TB) (hd : decode cc pc = .ok (.ldc ci, 2)) (hk : Sd p l e R s m args below meth c Q D base nL Rl0 (pc + 2) K) : Sd p l e R s m args below meth c Q D base nL Rl0 pc (o_ic v K) :=
  fun ls st h n1 n2 ho z1 z2 Rl H locs lsC stC hm hr hv' hl hS => lv_ldc C.1 C.2.1 C.2.2.2.1 (C.2.2.2.2.1 _ hw) hd (hk _ _ _ _ _ ho z1 z2 Rl H locs lsC _ hm hr ⟨rfl, hv'⟩ hl hS)
theorem s_ldcw (C : CX p R s m args c D base nL cc own d) {ci : Nat} {v : Int32} (hw : Cond.constant own ci v ∈ TB) (hd : decode cc pc = .ok (.ldc_w ci, 3)) (hk : Sd p l e R s m args below meth c Q D base nL Rl0 (pc + 3) K) : Sd p l e R s m args below meth c Q D base nL Rl0 pc (o_ic v K) :=
  fun ls st h n1 n2 ho z1 z2 Rl H locs lsC stC hm hr hv' hl hS => lv_ldcw C.1 C.2.1 C.2.2.2.1 (C.2.2.2.2.1 _ hw) hd (hk _ _ _ _ _ ho z1 z2 Rl H locs lsC _ hm hr ⟨rfl, hv'⟩ hl hS)
theorem s_ldc2 (C : CX p R s m args c D base nL cc own d) {ci : Nat} {v : Int64} (hw : Cond.constantLong own ci v ∈ TB) (hd : decode cc pc = .ok (.ldc2_w ci, 3)) (hk : Sd p l e R s m args below meth c Q D base nL Rl0 (pc + 3) K) : Sd p l e R s m args below meth c Q D base nL Rl0 pc (o_lc v K) :=
  fun ls st h n1 n2 ho z1 z2 Rl H locs lsC stC hm hr hv' hl hS => lv_ldc2 C.1 C.2.1 C.2.2.2.1 (C.2.2.2.2.1 _ hw) hd (hk _ _ _ _ _ ho z1 z2 Rl H locs lsC _ hm hr ⟨rfl, hv'⟩ hl hS)
theorem s_lconst (C : CX p R s m args c D base nL cc own d) {n : Fin 2} {v : Int64} (hd : decode cc pc = .ok (.lconst n, 1)) (hv : Int64.ofNat (n : Nat) = v) (hk : Sd p l e R s m args below meth c Q D base nL Rl0 (pc + 1) K) : Sd p l e R s m args below meth c Q D base nL Rl0 pc (o_lc v K) :=
  fun ls st h n1 n2 ho z1 z2 Rl H locs lsC stC hm hr hv' hl hS => lv_lconst C.1 C.2.1 hd hv (hk _ _ _ _ _ ho z1 z2 Rl H locs lsC _ hm hr ⟨rfl, hv'⟩ hl hS)
theorem s_null (C : CX p R s m args c D base nL cc own d) (hd : decode cc pc = .ok (.aconst_null, 1)) (hk : Sd p l e R s m args below meth c Q D base nL Rl0 (pc + 1) K) : Sd p l e R s m args below meth c Q D base nL Rl0 pc (o_null K) :=
  fun ls st h n1 n2 ho z1 z2 Rl H locs lsC stC hm hr hv' hl hS => lv_null C.1 C.2.1 hd (hk _ _ _ _ _ ho z1 z2 Rl H locs lsC _ hm hr ⟨rfl, hv'⟩ hl hS)
/-! locals -/
def o_il (i : Nat) (K : KT) : KT := fun ls st h n1 n2 => match nth ls i with
  | .int x => K ls (.int x :: st) h n1 n2
  | _ => False
def o_ll (i : Nat) (K : KT) : KT := fun ls st h n1 n2 => match nth ls i with
  | .long x => K ls (.long x :: st) h n1 n2
  | _ => False
def o_al (i : Nat) (K : KT) : KT := fun ls st h n1 n2 => isR (nth ls i) ∧ K ls (nth ls i :: st) h n1 n2
theorem LL.at {Rl : Nat → Nat → Prop} {ls : List Value} {lsC : Array Slot} {i : Nat} {v : Value} (h : LL Rl ls lsC nL) (hn : nth ls i = v) (hj : isJ v = false) : ∃ v', lsC[i]? = some (.val v') ∧ VR Rl v v' :=
  h.2.2 i v (by rw [← hn]; exact nth_get (by rw [hn]; exact hj)) hj
theorem s_iload (C : CX p R s m args c D base nL cc own d) {i : Nat} (hd : decode cc pc = .ok (.iload i, 2)) (hk : Sd p l e R s m args below meth c Q D base nL Rl0 (pc + 2) K) : Sd p l e R s m args below meth c Q D base nL Rl0 pc (o_il i K) := by
  intro ls st h n1 n2 ho z1 z2 Rl H locs lsC stC hm hr hv hl hS
  unfold o_il at ho
  split at ho
  · rename_i x hx
    obtain ⟨v', h1, rfl⟩ := hl.at hx rfl
    exact lv_iload C.1 C.2.1 hd h1 (hk _ _ _ _ _ ho z1 z2 Rl H locs lsC _ hm hr ⟨rfl, hv⟩ hl hS)
  · exact ho.elim
theorem s_iload_n (C : CX p R s m args c D base nL cc own d) {k : Fin 4} {i : Nat} (hd : decode cc pc = .ok (.iload_n k, 1)) (hi : (k : Nat) = i) (hk : Sd p l e R s m args below meth c Q D base nL Rl0 (pc + 1) K) : Sd p l e R s m args below meth c Q D base nL Rl0 pc (o_il i K) := by
  intro ls st h n1 n2 ho z1 z2 Rl H locs lsC stC hm hr hv hl hS
  unfold o_il at ho
  split at ho
  · rename_i x hx
    obtain ⟨v', h1, rfl⟩ := hl.at hx rfl
    exact lv_iload_n C.1 C.2.1 hd hi h1 (hk _ _ _ _ _ ho z1 z2 Rl H locs lsC _ hm hr ⟨rfl, hv⟩ hl hS)
  · exact ho.elim
theorem s_lload (C : CX p R s m args c D base nL cc own d) {i : Nat} (hd : decode cc pc = .ok (.lload i, 2)) (hk : Sd p l e R s m args below meth c Q D base nL Rl0 (pc + 2) K) : Sd p l e R s m args below meth c Q D base nL Rl0 pc (o_ll i K) := by
  intro ls st h n1 n2 ho z1 z2 Rl H locs lsC stC hm hr hv hl hS
  unfold o_ll at ho
  split at ho
  · rename_i x hx
    obtain ⟨v', h1, rfl⟩ := hl.at hx rfl
    exact lv_lload C.1 C.2.1 hd h1 (hk _ _ _ _ _ ho z1 z2 Rl H locs lsC _ hm hr ⟨rfl, hv⟩ hl hS)
  · exact ho.elim
theorem s_lload_n (C : CX p R s m args c D base nL cc own d) {k : Fin 4} {i : Nat} (hd : decode cc pc = .ok (.lload_n k, 1)) (hi : (k : Nat) = i) (hk : Sd p l e R s m args below meth c Q D base nL Rl0 (pc + 1) K) : Sd p l e R s m args below meth c Q D base nL Rl0 pc (o_ll i K) := by
  intro ls st h n1 n2 ho z1 z2 Rl H locs lsC stC hm hr hv hl hS
  unfold o_ll at ho
  split at ho
  · rename_i x hx
    obtain ⟨v', h1, rfl⟩ := hl.at hx rfl
    exact lv_lload_n C.1 C.2.1 hd hi h1 (hk _ _ _ _ _ ho z1 z2 Rl H locs lsC _ hm hr ⟨rfl, hv⟩ hl hS)
  · exact ho.elim
theorem s_aload (C : CX p R s m args c D base nL cc own d) {i : Nat} (hd : decode cc pc = .ok (.aload i, 2)) (hk : Sd p l e R s m args below meth c Q D base nL Rl0 (pc + 2) K) : Sd p l e R s m args below meth c Q D base nL Rl0 pc (o_al i K) := by
  intro ls st h n1 n2 ⟨hR, ho⟩ z1 z2 Rl H locs lsC stC hm hr hv hl hS
  obtain ⟨v', h1, h2⟩ := hl.at rfl (by cases hq : nth ls i <;> rw [hq] at hR <;> first | rfl | exact hR.elim)
  rcases h2.isR hR with ⟨e1, rfl⟩ | ⟨j, a, e1, rfl, h3⟩
  · exact lv_aloadN C.1 C.2.1 hd h1 (hk _ _ _ _ _ ho z1 z2 Rl H locs lsC _ hm hr ⟨h2, hv⟩ hl hS)
  · exact lv_aload C.1 C.2.1 hd h1 (hk _ _ _ _ _ ho z1 z2 Rl H locs lsC _ hm hr ⟨h2, hv⟩ hl hS)
theorem s_aload_n (C : CX p R s m args c D base nL cc own d) {k : Fin 4} {i : Nat} (hd : decode cc pc = .ok (.aload_n k, 1)) (hi : (k : Nat) = i) (hk : Sd p l e R s m args below meth c Q D base nL Rl0 (pc + 1) K) : Sd p l e R s m args below meth c Q D base nL Rl0 pc (o_al i K) := by
  intro ls st h n1 n2 ⟨hR, ho⟩ z1 z2 Rl H locs lsC stC hm hr hv hl hS
  obtain ⟨v', h1, h2⟩ := hl.at rfl (by cases hq : nth ls i <;> rw [hq] at hR <;> first | rfl | exact hR.elim)
  rcases h2.isR hR with ⟨e1, rfl⟩ | ⟨j, a, e1, rfl, h3⟩
  · exact lv_aload_nN C.1 C.2.1 hd hi h1 (hk _ _ _ _ _ ho z1 z2 Rl H locs lsC _ hm hr ⟨h2, hv⟩ hl hS)
  · exact lv_aload_n C.1 C.2.1 hd hi h1 (hk _ _ _ _ _ ho z1 z2 Rl H locs lsC _ hm hr ⟨h2, hv⟩ hl hS)
def o_is (i : Nat) (K : KT) : KT := fun ls st h n1 n2 => match st with
  | .int x :: st' => K (lset ls i (.int x)) st' h n1 n2
  | _ => False
def o_ls (i : Nat) (K : KT) : KT := fun ls st h n1 n2 => match st with
  | .long x :: st' => K (lset2 ls i (.long x)) st' h n1 n2
  | _ => False
def o_as (i : Nat) (K : KT) : KT := fun ls st h n1 n2 => match st with
  | v :: st' => isR v ∧ K (lset ls i v) st' h n1 n2
  | _ => False
def o_inc (i : Nat) (k : Int32) (K : KT) : KT := fun ls st h n1 n2 => match nth ls i with
  | .int x => K (lset ls i (.int (x + k))) st h n1 n2
  | _ => False
theorem s_istore (C : CX p R s m args c D base nL cc own d) {i : Nat} (hd : decode cc pc = .ok (.istore i, 2)) (hi : i < nL) (hk : Sd p l e R s m args below meth c Q D base nL Rl0 (pc + 2) K) : Sd p l e R s m args below meth c Q D base nL Rl0 pc (o_is i K) := by
  intro ls st h n1 n2 ho z1 z2 Rl H locs lsC stC hm hr hv hl hS
  unfold o_is at ho
  split at ho
  · obtain ⟨vs, rfl, hv1⟩ := hv.int'
    exact lv_istore C.1 C.2.1 hd hl.all hi rfl (fun ls' h' => hk _ _ _ _ _ ho z1 z2 Rl H locs ls' _ hm hr hv1 (hl.st1 (v := .int _) rfl h') hS)
  · exact ho.elim
theorem s_istore_n (C : CX p R s m args c D base nL cc own d) {k : Fin 4} {i : Nat} (hd : decode cc pc = .ok (.istore_n k, 1)) (hik : (k : Nat) = i) (hi : i < nL) (hk : Sd p l e R s m args below meth c Q D base nL Rl0 (pc + 1) K) : Sd p l e R s m args below meth c Q D base nL Rl0 pc (o_is i K) := by
  intro ls st h n1 n2 ho z1 z2 Rl H locs lsC stC hm hr hv hl hS
  unfold o_is at ho
  split at ho
  · obtain ⟨vs, rfl, hv1⟩ := hv.int'
    exact lv_istore_n C.1 C.2.1 hd hik hl.all hi rfl (fun ls' h' => hk _ _ _ _ _ ho z1 z2 Rl H locs ls' _ hm hr hv1 (hl.st1 (v := .int _) rfl h') hS)
  · exact ho.elim
theorem s_lstore (C : CX p R s m args c D base nL cc own d) {i : Nat} (hd : decode cc pc = .ok (.lstore i, 2)) (hi : i + 1 < nL) (hk : Sd p l e R s m args below meth c Q D base nL Rl0 (pc + 2) K) : Sd p l e R s m args below meth c Q D base nL Rl0 pc (o_ls i K) := by
  intro ls st h n1 n2 ho z1 z2 Rl H locs lsC stC hm hr hv hl hS
  unfold o_ls at ho
  split at ho
  · obtain ⟨vs, rfl, hv1⟩ := hv.long'
    exact lv_lstore C.1 C.2.1 hd hl.all hi rfl (fun ls' h' => hk _ _ _ _ _ ho z1 z2 Rl H locs ls' _ hm hr hv1 (hl.st2 (v := .long _) rfl h') hS)
  · exact ho.elim
theorem s_lstore_n (C : CX p R s m args c D base nL cc own d) {k : Fin 4} {i : Nat} (hd : decode cc pc = .ok (.lstore_n k, 1)) (hik : (k : Nat) = i) (hi : i + 1 < nL) (hk : Sd p l e R s m args below meth c Q D base nL Rl0 (pc + 1) K) : Sd p l e R s m args below meth c Q D base nL Rl0 pc (o_ls i K) := by
  intro ls st h n1 n2 ho z1 z2 Rl H locs lsC stC hm hr hv hl hS
  unfold o_ls at ho
  split at ho
  · obtain ⟨vs, rfl, hv1⟩ := hv.long'
    exact lv_lstore_n C.1 C.2.1 hd hik hl.all hi rfl (fun ls' h' => hk _ _ _ _ _ ho z1 z2 Rl H locs ls' _ hm hr hv1 (hl.st2 (v := .long _) rfl h') hS)
  · exact ho.elim
theorem s_astore (C : CX p R s m args c D base nL cc own d) {i : Nat} (hd : decode cc pc = .ok (.astore i, 2)) (hi : i < nL) (hk : Sd p l e R s m args below meth c Q D base nL Rl0 (pc + 2) K) : Sd p l e R s m args below meth c Q D base nL Rl0 pc (o_as i K) := by
  intro ls st h n1 n2 ho z1 z2 Rl H locs lsC stC hm hr hv hl hS
  unfold o_as at ho
  split at ho
  · obtain ⟨hR, ho⟩ := ho
    obtain ⟨v', vs, rfl, h2, hv1⟩ := hv.cons'
    rcases h2.isR hR with ⟨e1, rfl⟩ | ⟨j, a, e1, rfl, h3⟩
    · exact lv_astoreN C.1 C.2.1 hd hl.all hi rfl (fun ls' h' => hk _ _ _ _ _ ho z1 z2 Rl H locs ls' _ hm hr hv1 (hl.st1 h2 h') hS)
    · exact lv_astore C.1 C.2.1 hd hl.all hi rfl (fun ls' h' => hk _ _ _ _ _ ho z1 z2 Rl H locs ls' _ hm hr hv1 (hl.st1 h2 h') hS)
  · exact ho.elim
theorem s_astore_n (C : CX p R s m args c D base nL cc own d) {k : Fin 4} {i : Nat} (hd : decode cc pc = .ok (.astore_n k, 1)) (hik : (k : Nat) = i) (hi : i < nL) (hk : Sd p l e R s m args below meth c Q D base nL Rl0 (pc + 1) K) : Sd p l e R s m args below meth c Q D base nL Rl0 pc (o_as i K) := by
  intro ls st h n1 n2 ho z1 z2 Rl H locs lsC stC hm hr hv hl hS
  unfold o_as at ho
  split at ho
  · obtain ⟨hR, ho⟩ := ho
    obtain ⟨v', vs, rfl, h2, hv1⟩ := hv.cons'
    rcases h2.isR hR with ⟨e1, rfl⟩ | ⟨j, a, e1, rfl, h3⟩
    · exact lv_astore_nN C.1 C.2.1 hd hik hl.all hi rfl (fun ls' h' => hk _ _ _ _ _ ho z1 z2 Rl H locs ls' _ hm hr hv1 (hl.st1 h2 h') hS)
    · exact lv_astore_n C.1 C.2.1 hd hik hl.all hi rfl (fun ls' h' => hk _ _ _ _ _ ho z1 z2 Rl H locs ls' _ hm hr hv1 (hl.st1 h2 h') hS)
  · exact ho.elim
theorem s_iinc (C : CX p R s m args c D base nL cc own d) {i : Nat} {n : Int} {k : Int32} (hd : decode cc pc = .ok (.iinc i n, 3)) (hn : Int32.ofInt n = k) (hi : i < nL) (hk : Sd p l e R s m args below meth c Q D base nL Rl0 (pc + 3) K) : Sd p l e R s m args below meth c Q D base nL Rl0 pc (o_inc i k K) := by
  intro ls st h n1 n2 ho z1 z2 Rl H locs lsC stC hm hr hv hl hS
  unfold o_inc at ho
  split at ho
  · rename_i x hx
    obtain ⟨v', h1, rfl⟩ := hl.at hx rfl
    subst hn
    obtain ⟨k', hk'⟩ := List.getElem?_of_mem (allL_mem.mpr ⟨hi, h1⟩)
    exact lv_iinc C.1 C.2.1 hd hl.all hk' rfl hi rfl (fun ls' h' => hk _ _ _ _ _ ho z1 z2 Rl H locs ls' _ hm hr hv (hl.st1 (v := .int _) rfl h') hS)
  · exact ho.elim
/-! arithmetic -/
def o_ii (f : Int32 → Int32 → Int32) (K : KT) : KT := fun ls st h n1 n2 => match st with
  | .int y :: .int x :: st' => K ls (.int (f x y) :: st') h n1 n2
  | _ => False
def o_iid (f : Int32 → Int32 → Int32) (K : KT) : KT := fun ls st h n1 n2 => match st with
  | .int y :: .int x :: st' => ¬ y = 0 ∧ K ls (.int (f x y) :: st') h n1 n2
  | _ => False
def o_i (f : Int32 → Int32) (K : KT) : KT := fun ls st h n1 n2 => match st with
  | .int x :: st' => K ls (.int (f x) :: st') h n1 n2
  | _ => False
def o_jj (f : Int64 → Int64 → Int64) (K : KT) : KT := fun ls st h n1 n2 => match st with
  | .long y :: .long x :: st' => K ls (.long (f x y) :: st') h n1 n2
  | _ => False
def o_jjd (f : Int64 → Int64 → Int64) (K : KT) : KT := fun ls st h n1 n2 => match st with
  | .long y :: .long x :: st' => ¬ y = 0 ∧ K ls (.long (f x y) :: st') h n1 n2
  | _ => False
def o_i2l (K : KT) : KT := fun ls st h n1 n2 => match st with
  | .int x :: st' => K ls (.long x.toInt64 :: st') h n1 n2
  | _ => False
def o_l2i (K : KT) : KT := fun ls st h n1 n2 => match st with
  | .long x :: st' => K ls (.int x.toInt32 :: st') h n1 n2
  | _ => False
def o_lcmp (K : KT) : KT := fun ls st h n1 n2 => match st with
  | .long y :: .long x :: st' => K ls (.int (lg_cmp x y) :: st') h n1 n2
  | _ => False
theorem s_iadd (C : CX p R s m args c D base nL cc own d) (hd : decode cc pc = .ok (.iadd, 1)) (hk : Sd p l e R s m args below meth c Q D base nL Rl0 (pc + 1) K) : Sd p l e R s m args below meth c Q D base nL Rl0 pc (o_ii (fun x y => x + y) K) := by
  intro ls st h n1 n2 ho z1 z2 Rl H locs lsC stC hm hr hv hl hS
  unfold o_ii at ho
  split at ho
  · obtain ⟨vs, rfl, hv1⟩ := hv.int'
    obtain ⟨vs, rfl, hv2⟩ := hv1.int'
    exact lv_iadd C.1 C.2.1 hd (hk _ _ _ _ _ ho z1 z2 Rl H locs lsC _ hm hr ⟨rfl, hv2⟩ hl hS)
  · exact ho.elim
theorem s_isub (C : CX p R s m args c D base nL cc own d) (hd : decode cc pc = .ok (.isub, 1)) (hk : Sd p l e R s m args below meth c Q D base nL Rl0 (pc + 1) K) : Sd p l e R s m args below meth c Q D base nL Rl0 pc (o_ii (fun x y => x - y) K) := by
  intro ls st h n1 n2 ho z1 z2 Rl H locs lsC stC hm hr hv hl hS
  unfold o_ii at ho
  split at ho
  · obtain ⟨vs, rfl, hv1⟩ := hv.int'
    obtain ⟨vs, rfl, hv2⟩ := hv1.int'
    exact lv_isub C.1 C.2.1 hd (hk _ _ _ _ _ ho z1 z2 Rl H locs lsC _ hm hr ⟨rfl, hv2⟩ hl hS)
  · exact ho.elim
theorem s_imul (C : CX p R s m args c D base nL cc own d) (hd : decode cc pc = .ok (.imul, 1)) (hk : Sd p l e R s m args below meth c Q D base nL Rl0 (pc + 1) K) : Sd p l e R s m args below meth c Q D base nL Rl0 pc (o_ii (fun x y => x * y) K) := by
  intro ls st h n1 n2 ho z1 z2 Rl H locs lsC stC hm hr hv hl hS
  unfold o_ii at ho
  split at ho
  · obtain ⟨vs, rfl, hv1⟩ := hv.int'
    obtain ⟨vs, rfl, hv2⟩ := hv1.int'
    exact lv_imul C.1 C.2.1 hd (hk _ _ _ _ _ ho z1 z2 Rl H locs lsC _ hm hr ⟨rfl, hv2⟩ hl hS)
  · exact ho.elim
theorem s_iand (C : CX p R s m args c D base nL cc own d) (hd : decode cc pc = .ok (.iand, 1)) (hk : Sd p l e R s m args below meth c Q D base nL Rl0 (pc + 1) K) : Sd p l e R s m args below meth c Q D base nL Rl0 pc (o_ii (fun x y => x &&& y) K) := by
  intro ls st h n1 n2 ho z1 z2 Rl H locs lsC stC hm hr hv hl hS
  unfold o_ii at ho
  split at ho
  · obtain ⟨vs, rfl, hv1⟩ := hv.int'
    obtain ⟨vs, rfl, hv2⟩ := hv1.int'
    exact lv_iand C.1 C.2.1 hd (hk _ _ _ _ _ ho z1 z2 Rl H locs lsC _ hm hr ⟨rfl, hv2⟩ hl hS)
  · exact ho.elim
theorem s_ior (C : CX p R s m args c D base nL cc own d) (hd : decode cc pc = .ok (.ior, 1)) (hk : Sd p l e R s m args below meth c Q D base nL Rl0 (pc + 1) K) : Sd p l e R s m args below meth c Q D base nL Rl0 pc (o_ii (fun x y => x ||| y) K) := by
  intro ls st h n1 n2 ho z1 z2 Rl H locs lsC stC hm hr hv hl hS
  unfold o_ii at ho
  split at ho
  · obtain ⟨vs, rfl, hv1⟩ := hv.int'
    obtain ⟨vs, rfl, hv2⟩ := hv1.int'
    exact lv_ior C.1 C.2.1 hd (hk _ _ _ _ _ ho z1 z2 Rl H locs lsC _ hm hr ⟨rfl, hv2⟩ hl hS)
  · exact ho.elim
theorem s_ishl (C : CX p R s m args c D base nL cc own d) (hd : decode cc pc = .ok (.ishl, 1)) (hk : Sd p l e R s m args below meth c Q D base nL Rl0 (pc + 1) K) : Sd p l e R s m args below meth c Q D base nL Rl0 pc (o_ii (fun x y => x <<< (y &&& 31)) K) := by
  intro ls st h n1 n2 ho z1 z2 Rl H locs lsC stC hm hr hv hl hS
  unfold o_ii at ho
  split at ho
  · obtain ⟨vs, rfl, hv1⟩ := hv.int'
    obtain ⟨vs, rfl, hv2⟩ := hv1.int'
    exact lv_ishl C.1 C.2.1 hd (hk _ _ _ _ _ ho z1 z2 Rl H locs lsC _ hm hr ⟨rfl, hv2⟩ hl hS)
  · exact ho.elim
theorem s_ishr (C : CX p R s m args c D base nL cc own d) (hd : decode cc pc = .ok (.ishr, 1)) (hk : Sd p l e R s m args below meth c Q D base nL Rl0 (pc + 1) K) : Sd p l e R s m args below meth c Q D base nL Rl0 pc (o_ii (fun x y => x >>> (y &&& 31)) K) := by
  intro ls st h n1 n2 ho z1 z2 Rl H locs lsC stC hm hr hv hl hS
  unfold o_ii at ho
  split at ho
  · obtain ⟨vs, rfl, hv1⟩ := hv.int'
    obtain ⟨vs, rfl, hv2⟩ := hv1.int'
    exact lv_ishr C.1 C.2.1 hd (hk _ _ _ _ _ ho z1 z2 Rl H locs lsC _ hm hr ⟨rfl, hv2⟩ hl hS)
  · exact ho.elim
theorem s_iushr (C : CX p R s m args c D base nL cc own d) (hd : decode cc pc = .ok (.iushr, 1)) (hk : Sd p l e R s m args below meth c Q D base nL Rl0 (pc + 1) K) : Sd p l e R s m args below meth c Q D base nL Rl0 pc (o_ii (fun x y => (x.toUInt32 >>> (y.toUInt32 &&& Int32.toUInt32 31)).toInt32) K) := by
  intro ls st h n1 n2 ho z1 z2 Rl H locs lsC stC hm hr hv hl hS
  unfold o_ii at ho
  split at ho
  · obtain ⟨vs, rfl, hv1⟩ := hv.int'
    obtain ⟨vs, rfl, hv2⟩ := hv1.int'
    exact lv_iushr C.1 C.2.1 hd rfl (hk _ _ _ _ _ ho z1 z2 Rl H locs lsC _ hm hr ⟨rfl, hv2⟩ hl hS)
  · exact ho.elim
theorem s_idiv (C : CX p R s m args c D base nL cc own d) (hd : decode cc pc = .ok (.idiv, 1)) (hk : Sd p l e R s m args below meth c Q D base nL Rl0 (pc + 1) K) : Sd p l e R s m args below meth c Q D base nL Rl0 pc (o_iid (fun x y => x / y) K) := by
  intro ls st h n1 n2 ho z1 z2 Rl H locs lsC stC hm hr hv hl hS
  unfold o_iid at ho
  split at ho
  · obtain ⟨hne, ho⟩ := ho
    obtain ⟨vs, rfl, hv1⟩ := hv.int'
    obtain ⟨vs, rfl, hv2⟩ := hv1.int'
    exact lv_idiv C.1 C.2.1 hd hne (hk _ _ _ _ _ ho z1 z2 Rl H locs lsC _ hm hr ⟨rfl, hv2⟩ hl hS)
  · exact ho.elim
theorem s_irem (C : CX p R s m args c D base nL cc own d) (hd : decode cc pc = .ok (.irem, 1)) (hk : Sd p l e R s m args below meth c Q D base nL Rl0 (pc + 1) K) : Sd p l e R s m args below meth c Q D base nL Rl0 pc (o_iid (fun x y => x - x / y * y) K) := by
  intro ls st h n1 n2 ho z1 z2 Rl H locs lsC stC hm hr hv hl hS
  unfold o_iid at ho
  split at ho
  · obtain ⟨hne, ho⟩ := ho
    obtain ⟨vs, rfl, hv1⟩ := hv.int'
    obtain ⟨vs, rfl, hv2⟩ := hv1.int'
    exact lv_irem C.1 C.2.1 hd hne (hk _ _ _ _ _ ho z1 z2 Rl H locs lsC _ hm hr ⟨rfl, hv2⟩ hl hS)
  · exact ho.elim
theorem s_ineg (C : CX p R s m args c D base nL cc own d) (hd : decode cc pc = .ok (.ineg, 1)) (hk : Sd p l e R s m args below meth c Q D base nL Rl0 (pc + 1) K) : Sd p l e R s m args below meth c Q D base nL Rl0 pc (o_i (fun x => -x) K) := by
  intro ls st h n1 n2 ho z1 z2 Rl H locs lsC stC hm hr hv hl hS
  unfold o_i at ho
  split at ho
  · obtain ⟨vs, rfl, hv1⟩ := hv.int'
    exact lv_ineg C.1 C.2.1 hd (hk _ _ _ _ _ ho z1 z2 Rl H locs lsC _ hm hr ⟨rfl, hv1⟩ hl hS)
  · exact ho.elim
theorem s_i2b (C : CX p R s m args c D base nL cc own d) (hd : decode cc pc = .ok (.i2b, 1)) (hk : Sd p l e R s m args below meth c Q D base nL Rl0 (pc + 1) K) : Sd p l e R s m args below meth c Q D base nL Rl0 pc (o_i (fun x => x.toInt8.toInt32) K) := by
  intro ls st h n1 n2 ho z1 z2 Rl H locs lsC stC hm hr hv hl hS
  unfold o_i at ho
  split at ho
  · obtain ⟨vs, rfl, hv1⟩ := hv.int'
    exact lv_i2b C.1 C.2.1 hd rfl (hk _ _ _ _ _ ho z1 z2 Rl H locs lsC _ hm hr ⟨rfl, hv1⟩ hl hS)
  · exact ho.elim
theorem s_i2s (C : CX p R s m args c D base nL cc own d) (hd : decode cc pc = .ok (.i2s, 1)) (hk : Sd p l e R s m args below meth c Q D base nL Rl0 (pc + 1) K) : Sd p l e R s m args below meth c Q D base nL Rl0 pc (o_i (fun x => x.toInt16.toInt32) K) := by
  intro ls st h n1 n2 ho z1 z2 Rl H locs lsC stC hm hr hv hl hS
  unfold o_i at ho
  split at ho
  · obtain ⟨vs, rfl, hv1⟩ := hv.int'
    exact lv_i2s C.1 C.2.1 hd rfl (hk _ _ _ _ _ ho z1 z2 Rl H locs lsC _ hm hr ⟨rfl, hv1⟩ hl hS)
  · exact ho.elim
theorem s_ladd (C : CX p R s m args c D base nL cc own d) (hd : decode cc pc = .ok (.ladd, 1)) (hk : Sd p l e R s m args below meth c Q D base nL Rl0 (pc + 1) K) : Sd p l e R s m args below meth c Q D base nL Rl0 pc (o_jj (fun x y => x + y) K) := by
  intro ls st h n1 n2 ho z1 z2 Rl H locs lsC stC hm hr hv hl hS
  unfold o_jj at ho
  split at ho
  · obtain ⟨vs, rfl, hv1⟩ := hv.long'
    obtain ⟨vs, rfl, hv2⟩ := hv1.long'
    exact lv_ladd C.1 C.2.1 hd (hk _ _ _ _ _ ho z1 z2 Rl H locs lsC _ hm hr ⟨rfl, hv2⟩ hl hS)
  · exact ho.elim
theorem s_lsub (C : CX p R s m args c D base nL cc own d) (hd : decode cc pc = .ok (.lsub, 1)) (hk : Sd p l e R s m args below meth c Q D base nL Rl0 (pc + 1) K) : Sd p l e R s m args below meth c Q D base nL Rl0 pc (o_jj (fun x y => x - y) K) := by
  intro ls st h n1 n2 ho z1 z2 Rl H locs lsC stC hm hr hv hl hS
  unfold o_jj at ho
  split at ho
  · obtain ⟨vs, rfl, hv1⟩ := hv.long'
    obtain ⟨vs, rfl, hv2⟩ := hv1.long'
    exact lv_lsub C.1 C.2.1 hd (hk _ _ _ _ _ ho z1 z2 Rl H locs lsC _ hm hr ⟨rfl, hv2⟩ hl hS)
  · exact ho.elim
theorem s_lmul (C : CX p R s m args c D base nL cc own d) (hd : decode cc pc = .ok (.lmul, 1)) (hk : Sd p l e R s m args below meth c Q D base nL Rl0 (pc + 1) K) : Sd p l e R s m args below meth c Q D base nL Rl0 pc (o_jj (fun x y => x * y) K) := by
  intro ls st h n1 n2 ho z1 z2 Rl H locs lsC stC hm hr hv hl hS
  unfold o_jj at ho
  split at ho
  · obtain ⟨vs, rfl, hv1⟩ := hv.long'
    obtain ⟨vs, rfl, hv2⟩ := hv1.long'
    exact lv_lmul C.1 C.2.1 hd (hk _ _ _ _ _ ho z1 z2 Rl H locs lsC _ hm hr ⟨rfl, hv2⟩ hl hS)
  · exact ho.elim
theorem s_ldiv (C : CX p R s m args c D base nL cc own d) (hd : decode cc pc = .ok (.ldiv, 1)) (hk : Sd p l e R s m args below meth c Q D base nL Rl0 (pc + 1) K) : Sd p l e R s m args below meth c Q D base nL Rl0 pc (o_jjd (fun x y => x / y) K) := by
  intro ls st h n1 n2 ho z1 z2 Rl H locs lsC stC hm hr hv hl hS
  unfold o_jjd at ho
  split at ho
  · obtain ⟨hne, ho⟩ := ho
    obtain ⟨vs, rfl, hv1⟩ := hv.long'
    obtain ⟨vs, rfl, hv2⟩ := hv1.long'
    exact lv_ldiv C.1 C.2.1 hd hne (hk _ _ _ _ _ ho z1 z2 Rl H locs lsC _ hm hr ⟨rfl, hv2⟩ hl hS)
  · exact ho.elim
theorem s_lrem (C : CX p R s m args c D base nL cc own d) (hd : decode cc pc = .ok (.lrem, 1)) (hk : Sd p l e R s m args below meth c Q D base nL Rl0 (pc + 1) K) : Sd p l e R s m args below meth c Q D base nL Rl0 pc (o_jjd (fun x y => x - x / y * y) K) := by
  intro ls st h n1 n2 ho z1 z2 Rl H locs lsC stC hm hr hv hl hS
  unfold o_jjd at ho
  split at ho
  · obtain ⟨hne, ho⟩ := ho
    obtain ⟨vs, rfl, hv1⟩ := hv.long'
    obtain ⟨vs, rfl, hv2⟩ := hv1.long'
    exact lv_lrem C.1 C.2.1 hd hne (hk _ _ _ _ _ ho z1 z2 Rl H locs lsC _ hm hr ⟨rfl, hv2⟩ hl hS)
  · exact ho.elim
theorem s_i2l (C : CX p R s m args c D base nL cc own d) (hd : decode cc pc = .ok (.i2l, 1)) (hk : Sd p l e R s m args below meth c Q D base nL Rl0 (pc + 1) K) : Sd p l e R s m args below meth c Q D base nL Rl0 pc (o_i2l K) := by
  intro ls st h n1 n2 ho z1 z2 Rl H locs lsC stC hm hr hv hl hS
  unfold o_i2l at ho
  split at ho
  · obtain ⟨vs, rfl, hv1⟩ := hv.int'
    exact lv_i2l C.1 C.2.1 hd rfl (hk _ _ _ _ _ ho z1 z2 Rl H locs lsC _ hm hr ⟨rfl, hv1⟩ hl hS)
  · exact ho.elim
theorem s_l2i (C : CX p R s m args c D base nL cc own d) (hd : decode cc pc = .ok (.l2i, 1)) (hk : Sd p l e R s m args below meth c Q D base nL Rl0 (pc + 1) K) : Sd p l e R s m args below meth c Q D base nL Rl0 pc (o_l2i K) := by
  intro ls st h n1 n2 ho z1 z2 Rl H locs lsC stC hm hr hv hl hS
  unfold o_l2i at ho
  split at ho
  · obtain ⟨vs, rfl, hv1⟩ := hv.long'
    exact lv_l2i C.1 C.2.1 hd rfl (hk _ _ _ _ _ ho z1 z2 Rl H locs lsC _ hm hr ⟨rfl, hv1⟩ hl hS)
  · exact ho.elim
theorem s_lcmp (C : CX p R s m args c D base nL cc own d) (hd : decode cc pc = .ok (.lcmp, 1)) (hk : Sd p l e R s m args below meth c Q D base nL Rl0 (pc + 1) K) : Sd p l e R s m args below meth c Q D base nL Rl0 pc (o_lcmp K) := by
  intro ls st h n1 n2 ho z1 z2 Rl H locs lsC stC hm hr hv hl hS
  unfold o_lcmp at ho
  split at ho
  · obtain ⟨vs, rfl, hv1⟩ := hv.long'
    obtain ⟨vs, rfl, hv2⟩ := hv1.long'
    exact W.lcmp C.1 C.2.1 hd (hk _ _ _ _ _ ho z1 z2 Rl H locs lsC _ hm hr ⟨rfl, hv2⟩ hl hS)
  · exact ho.elim
/-! the stack -/
def o_dup (K : KT) : KT := fun ls st h n1 n2 => match st with
  | v :: st' => v.category = 1 ∧ K ls (v :: v :: st') h n1 n2
  | _ => False
def o_pop (K : KT) : KT := fun ls st h n1 n2 => match st with
  | v :: st' => v.category = 1 ∧ K ls st' h n1 n2
  | _ => False
def o_dupx (K : KT) : KT := fun ls st h n1 n2 => match st with
  | v :: w :: st' => v.category = 1 ∧ w.category = 1 ∧ K ls (v :: w :: v :: st') h n1 n2
  | _ => False
def o_dup2 (K : KT) : KT := fun ls st h n1 n2 => match st with
  | v :: w :: st' => v.category = 1 ∧ w.category = 1 ∧ K ls (v :: w :: v :: w :: st') h n1 n2
  | _ => False
theorem cat_i (x : Int32) : (Value.int x).category = 1 := rfl
theorem cat_l (x : Int64) : (Value.long x).category = 2 := rfl
theorem cat_r (x : Nat) : (Value.ref x).category = 1 := rfl
theorem cat_n : Value.null.category = 1 := rfl
theorem cat_rf (o : Option Nat) : (va_rf o).category = 1 := by cases o <;> rfl
theorem s_dup (C : CX p R s m args c D base nL cc own d) (hd : decode cc pc = .ok (.dup, 1)) (hk : Sd p l e R s m args below meth c Q D base nL Rl0 (pc + 1) K) : Sd p l e R s m args below meth c Q D base nL Rl0 pc (o_dup K) := by
  intro ls st h n1 n2 ho z1 z2 Rl H locs lsC stC hm hr hv hl hS
  unfold o_dup at ho
  split at ho
  · obtain ⟨hc, ho⟩ := ho
    obtain ⟨v', vs, rfl, h2, hv1⟩ := hv.cons'
    exact lv_dup C.1 C.2.1 hd (h2.cat.trans hc) (hk _ _ _ _ _ ho z1 z2 Rl H locs lsC _ hm hr ⟨h2, h2, hv1⟩ hl hS)
  · exact ho.elim
theorem s_pop (C : CX p R s m args c D base nL cc own d) (hd : decode cc pc = .ok (.pop, 1)) (hk : Sd p l e R s m args below meth c Q D base nL Rl0 (pc + 1) K) : Sd p l e R s m args below meth c Q D base nL Rl0 pc (o_pop K) := by
  intro ls st h n1 n2 ho z1 z2 Rl H locs lsC stC hm hr hv hl hS
  unfold o_pop at ho
  split at ho
  · obtain ⟨hc, ho⟩ := ho
    obtain ⟨v', vs, rfl, h2, hv1⟩ := hv.cons'
    exact lv_pop C.1 C.2.1 hd (h2.cat.trans hc) (hk _ _ _ _ _ ho z1 z2 Rl H locs lsC _ hm hr hv1 hl hS)
  · exact ho.elim
theorem s_dup_x1 (C : CX p R s m args c D base nL cc own d) (hd : decode cc pc = .ok (.dup_x1, 1)) (hk : Sd p l e R s m args below meth c Q D base nL Rl0 (pc + 1) K) : Sd p l e R s m args below meth c Q D base nL Rl0 pc (o_dupx K) := by
  intro ls st h n1 n2 ho z1 z2 Rl H locs lsC stC hm hr hv hl hS
  unfold o_dupx at ho
  split at ho
  · obtain ⟨hc, hc2, ho⟩ := ho
    obtain ⟨v', vs, rfl, h2, hv1⟩ := hv.cons'
    obtain ⟨w', vs, rfl, h3, hv2⟩ := hv1.cons'
    exact lv_dup_x1 C.1 C.2.1 hd (h2.cat.trans hc) (h3.cat.trans hc2) (hk _ _ _ _ _ ho z1 z2 Rl H locs lsC _ hm hr ⟨h2, h3, h2, hv2⟩ hl hS)
  · exact ho.elim
theorem s_dup2 (C : CX p R s m args c D base nL cc own d) (hd : decode cc pc = .ok (.dup2, 1)) (hk : Sd p l e R s m args below meth c Q D base nL Rl0 (pc + 1) K) : Sd p l e R s m args below meth c Q D base nL Rl0 pc (o_dup2 K) := by
  intro ls st h n1 n2 ho z1 z2 Rl H locs lsC stC hm hr hv hl hS
  unfold o_dup2 at ho
  split at ho
  · obtain ⟨hc, hc2, ho⟩ := ho
    obtain ⟨v', vs, rfl, h2, hv1⟩ := hv.cons'
    obtain ⟨w', vs, rfl, h3, hv2⟩ := hv1.cons'
    exact lv_dup2_11 C.1 C.2.1 hd (h2.cat.trans hc) (h3.cat.trans hc2) (hk _ _ _ _ _ ho z1 z2 Rl H locs lsC _ hm hr ⟨h2, h3, h2, h3, hv2⟩ hl hS)
  · exact ho.elim
/-! branches -/
def o_if (f : Int32 → Prop) (Kt Kf : KT) : KT := fun ls st h n1 n2 => match st with
  | .int x :: st' => (f x → Kt ls st' h n1 n2) ∧ (¬ f x → Kf ls st' h n1 n2)
  | _ => False
def o_ic2 (f : Int32 → Int32 → Prop) (Kt Kf : KT) : KT := fun ls st h n1 n2 => match st with
  | .int y :: .int x :: st' => (f x y → Kt ls st' h n1 n2) ∧ (¬ f x y → Kf ls st' h n1 n2)
  | _ => False
def o_ifn (Kt Kf : KT) : KT := fun ls st h n1 n2 => match st with
  | v :: st' => isR v ∧ (v = .null → Kt ls st' h n1 n2) ∧ (¬ v = .null → Kf ls st' h n1 n2)
  | _ => False
theorem rf_null (o : Option Nat) : (va_rf o = .null) = (o = none) := by cases o <;> simp [va_rf]
theorem s_goto (C : CX p R s m args c D base nL cc own d) {off : Int} {tgt : Nat} (hd : decode cc pc = .ok (.goto off, 3)) (ht : (pc : Int) + off = (tgt : Int)) (hk : Sd p l e R s m args below meth c Q D base nL Rl0 tgt K) : Sd p l e R s m args below meth c Q D base nL Rl0 pc K :=
  fun ls st h n1 n2 ho z1 z2 Rl H locs lsC stC hm hr hv' hl hS => lv_goto C.1 C.2.1 hd ht (hk _ _ _ _ _ ho z1 z2 Rl H locs lsC _ hm hr hv' hl hS)
theorem s_if_eq {Kt Kf : KT} (C : CX p R s m args c D base nL cc own d) {off : Int} {tgt : Nat} (hd : decode cc pc = .ok (.ifCond .eq off, 3)) (ht : (pc : Int) + off = (tgt : Int)) (hkt : Sd p l e R s m args below meth c Q D base nL Rl0 tgt Kt) (hkf : Sd p l e R s m args below meth c Q D base nL Rl0 (pc + 3) Kf) : Sd p l e R s m args below meth c Q D base nL Rl0 pc (o_if (fun x => x = 0) Kt Kf) := by
  intro ls st h n1 n2 ho z1 z2 Rl H locs lsC stC hm hr hv hl hS
  unfold o_if at ho
  split at ho
  · obtain ⟨vs, rfl, hv1⟩ := hv.int'
    exact lv_if_eq C.1 C.2.1 hd ht (fun q => hkt _ _ _ _ _ (ho.1 q) z1 z2 Rl H locs lsC _ hm hr hv1 hl hS) (fun q => hkf _ _ _ _ _ (ho.2 q) z1 z2 Rl H locs lsC _ hm hr hv1 hl hS)
  · exact ho.elim
theorem s_if_ne {Kt Kf : KT} (C : CX p R s m args c D base nL cc own d) {off : Int} {tgt : Nat} (hd : decode cc pc = .ok (.ifCond .ne off, 3)) (ht : (pc : Int) + off = (tgt : Int)) (hkt : Sd p l e R s m args below meth c Q D base nL Rl0 tgt Kt) (hkf : Sd p l e R s m args below meth c Q D base nL Rl0 (pc + 3) Kf) : Sd p l e R s m args below meth c Q D base nL Rl0 pc (o_if (fun x => x = 0) Kf Kt) := by
  intro ls st h n1 n2 ho z1 z2 Rl H locs lsC stC hm hr hv hl hS
  unfold o_if at ho
  split at ho
  · obtain ⟨vs, rfl, hv1⟩ := hv.int'
    exact lv_if_ne C.1 C.2.1 hd ht (fun q => hkt _ _ _ _ _ (ho.2 q) z1 z2 Rl H locs lsC _ hm hr hv1 hl hS) (fun q => hkf _ _ _ _ _ (ho.1 q) z1 z2 Rl H locs lsC _ hm hr hv1 hl hS)
  · exact ho.elim
theorem s_if_lt {Kt Kf : KT} (C : CX p R s m args c D base nL cc own d) {off : Int} {tgt : Nat} (hd : decode cc pc = .ok (.ifCond .lt off, 3)) (ht : (pc : Int) + off = (tgt : Int)) (hkt : Sd p l e R s m args below meth c Q D base nL Rl0 tgt Kt) (hkf : Sd p l e R s m args below meth c Q D base nL Rl0 (pc + 3) Kf) : Sd p l e R s m args below meth c Q D base nL Rl0 pc (o_if (fun x => x < 0) Kt Kf) := by
  intro ls st h n1 n2 ho z1 z2 Rl H locs lsC stC hm hr hv hl hS
  unfold o_if at ho
  split at ho
  · obtain ⟨vs, rfl, hv1⟩ := hv.int'
    exact lv_if_lt C.1 C.2.1 hd ht (fun q => hkt _ _ _ _ _ (ho.1 q) z1 z2 Rl H locs lsC _ hm hr hv1 hl hS) (fun q => hkf _ _ _ _ _ (ho.2 q) z1 z2 Rl H locs lsC _ hm hr hv1 hl hS)
  · exact ho.elim
theorem s_if_ge {Kt Kf : KT} (C : CX p R s m args c D base nL cc own d) {off : Int} {tgt : Nat} (hd : decode cc pc = .ok (.ifCond .ge off, 3)) (ht : (pc : Int) + off = (tgt : Int)) (hkt : Sd p l e R s m args below meth c Q D base nL Rl0 tgt Kt) (hkf : Sd p l e R s m args below meth c Q D base nL Rl0 (pc + 3) Kf) : Sd p l e R s m args below meth c Q D base nL Rl0 pc (o_if (fun x => 0 ≤ x) Kt Kf) := by
  intro ls st h n1 n2 ho z1 z2 Rl H locs lsC stC hm hr hv hl hS
  unfold o_if at ho
  split at ho
  · obtain ⟨vs, rfl, hv1⟩ := hv.int'
    exact lv_if_ge C.1 C.2.1 hd ht (fun q => hkt _ _ _ _ _ (ho.1 q) z1 z2 Rl H locs lsC _ hm hr hv1 hl hS) (fun q => hkf _ _ _ _ _ (ho.2 q) z1 z2 Rl H locs lsC _ hm hr hv1 hl hS)
  · exact ho.elim
theorem s_if_gt {Kt Kf : KT} (C : CX p R s m args c D base nL cc own d) {off : Int} {tgt : Nat} (hd : decode cc pc = .ok (.ifCond .gt off, 3)) (ht : (pc : Int) + off = (tgt : Int)) (hkt : Sd p l e R s m args below meth c Q D base nL Rl0 tgt Kt) (hkf : Sd p l e R s m args below meth c Q D base nL Rl0 (pc + 3) Kf) : Sd p l e R s m args below meth c Q D base nL Rl0 pc (o_if (fun x => 0 < x) Kt Kf) := by
  intro ls st h n1 n2 ho z1 z2 Rl H locs lsC stC hm hr hv hl hS
  unfold o_if at ho
  split at ho
  · obtain ⟨vs, rfl, hv1⟩ := hv.int'
    exact lv_if_gt C.1 C.2.1 hd ht (fun q => hkt _ _ _ _ _ (ho.1 q) z1 z2 Rl H locs lsC _ hm hr hv1 hl hS) (fun q => hkf _ _ _ _ _ (ho.2 q) z1 z2 Rl H locs lsC _ hm hr hv1 hl hS)
  · exact ho.elim
theorem s_if_le {Kt Kf : KT} (C : CX p R s m args c D base nL cc own d) {off : Int} {tgt : Nat} (hd : decode cc pc = .ok (.ifCond .le off, 3)) (ht : (pc : Int) + off = (tgt : Int)) (hkt : Sd p l e R s m args below meth c Q D base nL Rl0 tgt Kt) (hkf : Sd p l e R s m args below meth c Q D base nL Rl0 (pc + 3) Kf) : Sd p l e R s m args below meth c Q D base nL Rl0 pc (o_if (fun x => x ≤ 0) Kt Kf) := by
  intro ls st h n1 n2 ho z1 z2 Rl H locs lsC stC hm hr hv hl hS
  unfold o_if at ho
  split at ho
  · obtain ⟨vs, rfl, hv1⟩ := hv.int'
    exact lv_if_le C.1 C.2.1 hd ht (fun q => hkt _ _ _ _ _ (ho.1 q) z1 z2 Rl H locs lsC _ hm hr hv1 hl hS) (fun q => hkf _ _ _ _ _ (ho.2 q) z1 z2 Rl H locs lsC _ hm hr hv1 hl hS)
  · exact ho.elim
theorem s_icmp_eq {Kt Kf : KT} (C : CX p R s m args c D base nL cc own d) {off : Int} {tgt : Nat} (hd : decode cc pc = .ok (.if_icmp .eq off, 3)) (ht : (pc : Int) + off = (tgt : Int)) (hkt : Sd p l e R s m args below meth c Q D base nL Rl0 tgt Kt) (hkf : Sd p l e R s m args below meth c Q D base nL Rl0 (pc + 3) Kf) : Sd p l e R s m args below meth c Q D base nL Rl0 pc (o_ic2 (fun x y => x = y) Kt Kf) := by
  intro ls st h n1 n2 ho z1 z2 Rl H locs lsC stC hm hr hv hl hS
  unfold o_ic2 at ho
  split at ho
  · obtain ⟨vs, rfl, hv1⟩ := hv.int'
    obtain ⟨vs, rfl, hv2⟩ := hv1.int'
    exact lv_icmp_eq C.1 C.2.1 hd ht (fun q => hkt _ _ _ _ _ (ho.1 q) z1 z2 Rl H locs lsC _ hm hr hv2 hl hS) (fun q => hkf _ _ _ _ _ (ho.2 q) z1 z2 Rl H locs lsC _ hm hr hv2 hl hS)
  · exact ho.elim
theorem s_icmp_ne {Kt Kf : KT} (C : CX p R s m args c D base nL cc own d) {off : Int} {tgt : Nat} (hd : decode cc pc = .ok (.if_icmp .ne off, 3)) (ht : (pc : Int) + off = (tgt : Int)) (hkt : Sd p l e R s m args below meth c Q D base nL Rl0 tgt Kt) (hkf : Sd p l e R s m args below meth c Q D base nL Rl0 (pc + 3) Kf) : Sd p l e R s m args below meth c Q D base nL Rl0 pc (o_ic2 (fun x y => x = y) Kf Kt) := by
  intro ls st h n1 n2 ho z1 z2 Rl H locs lsC stC hm hr hv hl hS
  unfold o_ic2 at ho
  split at ho
  · obtain ⟨vs, rfl, hv1⟩ := hv.int'
    obtain ⟨vs, rfl, hv2⟩ := hv1.int'
    exact lv_icmp_ne C.1 C.2.1 hd ht (fun q => hkt _ _ _ _ _ (ho.2 q) z1 z2 Rl H locs lsC _ hm hr hv2 hl hS) (fun q => hkf _ _ _ _ _ (ho.1 q) z1 z2 Rl H locs lsC _ hm hr hv2 hl hS)
  · exact ho.elim
theorem s_icmp_lt {Kt Kf : KT} (C : CX p R s m args c D base nL cc own d) {off : Int} {tgt : Nat} (hd : decode cc pc = .ok (.if_icmp .lt off, 3)) (ht : (pc : Int) + off = (tgt : Int)) (hkt : Sd p l e R s m args below meth c Q D base nL Rl0 tgt Kt) (hkf : Sd p l e R s m args below meth c Q D base nL Rl0 (pc + 3) Kf) : Sd p l e R s m args below meth c Q D base nL Rl0 pc (o_ic2 (fun x y => x < y) Kt Kf) := by
  intro ls st h n1 n2 ho z1 z2 Rl H locs lsC stC hm hr hv hl hS
  unfold o_ic2 at ho
  split at ho
  · obtain ⟨vs, rfl, hv1⟩ := hv.int'
    obtain ⟨vs, rfl, hv2⟩ := hv1.int'
    exact lv_icmp_lt C.1 C.2.1 hd ht (fun q => hkt _ _ _ _ _ (ho.1 q) z1 z2 Rl H locs lsC _ hm hr hv2 hl hS) (fun q => hkf _ _ _ _ _ (ho.2 q) z1 z2 Rl H locs lsC _ hm hr hv2 hl hS)
  · exact ho.elim
theorem s_icmp_ge {Kt Kf : KT} (C : CX p R s m args c D base nL cc own d) {off : Int} {tgt : Nat} (hd : decode cc pc = .ok (.if_icmp .ge off, 3)) (ht : (pc : Int) + off = (tgt : Int)) (hkt : Sd p l e R s m args below meth c Q D base nL Rl0 tgt Kt) (hkf : Sd p l e R s m args below meth c Q D base nL Rl0 (pc + 3) Kf) : Sd p l e R s m args below meth c Q D base nL Rl0 pc (o_ic2 (fun x y => y ≤ x) Kt Kf) := by
  intro ls st h n1 n2 ho z1 z2 Rl H locs lsC stC hm hr hv hl hS
  unfold o_ic2 at ho
  split at ho
  · obtain ⟨vs, rfl, hv1⟩ := hv.int'
    obtain ⟨vs, rfl, hv2⟩ := hv1.int'
    exact lv_icmp_ge C.1 C.2.1 hd ht (fun q => hkt _ _ _ _ _ (ho.1 q) z1 z2 Rl H locs lsC _ hm hr hv2 hl hS) (fun q => hkf _ _ _ _ _ (ho.2 q) z1 z2 Rl H locs lsC _ hm hr hv2 hl hS)
  · exact ho.elim
theorem s_icmp_gt {Kt Kf : KT} (C : CX p R s m args c D base nL cc own d) {off : Int} {tgt : Nat} (hd : decode cc pc = .ok (.if_icmp .gt off, 3)) (ht : (pc : Int) + off = (tgt : Int)) (hkt : Sd p l e R s m args below meth c Q D base nL Rl0 tgt Kt) (hkf : Sd p l e R s m args below meth c Q D base nL Rl0 (pc + 3) Kf) : Sd p l e R s m args below meth c Q D base nL Rl0 pc (o_ic2 (fun x y => y < x) Kt Kf) := by
  intro ls st h n1 n2 ho z1 z2 Rl H locs lsC stC hm hr hv hl hS
  unfold o_ic2 at ho
  split at ho
  · obtain ⟨vs, rfl, hv1⟩ := hv.int'
    obtain ⟨vs, rfl, hv2⟩ := hv1.int'
    exact lv_icmp_gt C.1 C.2.1 hd ht (fun q => hkt _ _ _ _ _ (ho.1 q) z1 z2 Rl H locs lsC _ hm hr hv2 hl hS) (fun q => hkf _ _ _ _ _ (ho.2 q) z1 z2 Rl H locs lsC _ hm hr hv2 hl hS)
  · exact ho.elim
theorem s_icmp_le {Kt Kf : KT} (C : CX p R s m args c D base nL cc own d) {off : Int} {tgt : Nat} (hd : decode cc pc = .ok (.if_icmp .le off, 3)) (ht : (pc : Int) + off = (tgt : Int)) (hkt : Sd p l e R s m args below meth c Q D base nL Rl0 tgt Kt) (hkf : Sd p l e R s m args below meth c Q D base nL Rl0 (pc + 3) Kf) : Sd p l e R s m args below meth c Q D base nL Rl0 pc (o_ic2 (fun x y => x ≤ y) Kt Kf) := by
  intro ls st h n1 n2 ho z1 z2 Rl H locs lsC stC hm hr hv hl hS
  unfold o_ic2 at ho
  split at ho
  · obtain ⟨vs, rfl, hv1⟩ := hv.int'
    obtain ⟨vs, rfl, hv2⟩ := hv1.int'
    exact lv_icmp_le C.1 C.2.1 hd ht (fun q => hkt _ _ _ _ _ (ho.1 q) z1 z2 Rl H locs lsC _ hm hr hv2 hl hS) (fun q => hkf _ _ _ _ _ (ho.2 q) z1 z2 Rl H locs lsC _ hm hr hv2 hl hS)
  · exact ho.elim
theorem s_ifnull {Kt Kf : KT} (C : CX p R s m args c D base nL cc own d) {off : Int} {tgt : Nat} (hd : decode cc pc = .ok (.ifnull off, 3)) (ht : (pc : Int) + off = (tgt : Int)) (hkt : Sd p l e R s m args below meth c Q D base nL Rl0 tgt Kt) (hkf : Sd p l e R s m args below meth c Q D base nL Rl0 (pc + 3) Kf) : Sd p l e R s m args below meth c Q D base nL Rl0 pc (o_ifn Kt Kf) := by
  intro ls st h n1 n2 ho z1 z2 Rl H locs lsC stC hm hr hv hl hS
  unfold o_ifn at ho
  split at ho
  · obtain ⟨hR, ho1, ho2⟩ := ho
    obtain ⟨v', vs, rfl, h2, hv1⟩ := hv.cons'
    rcases h2.isR hR with ⟨e1, rfl⟩ | ⟨j, a, e1, rfl, h3⟩
    · exact lv_ifnullN C.1 C.2.1 hd ht (hkt _ _ _ _ _ (ho1 e1) z1 z2 Rl H locs lsC _ hm hr hv1 hl hS)
    · exact lv_ifnull C.1 C.2.1 hd (hkf _ _ _ _ _ (ho2 (by rw [e1]; intro q; cases q)) z1 z2 Rl H locs lsC _ hm hr hv1 hl hS)
  · exact ho.elim
theorem s_ifnonnull {Kt Kf : KT} (C : CX p R s m args c D base nL cc own d) {off : Int} {tgt : Nat} (hd : decode cc pc = .ok (.ifnonnull off, 3)) (ht : (pc : Int) + off = (tgt : Int)) (hkt : Sd p l e R s m args below meth c Q D base nL Rl0 tgt Kt) (hkf : Sd p l e R s m args below meth c Q D base nL Rl0 (pc + 3) Kf) : Sd p l e R s m args below meth c Q D base nL Rl0 pc (o_ifn Kf Kt) := by
  intro ls st h n1 n2 ho z1 z2 Rl H locs lsC stC hm hr hv hl hS
  unfold o_ifn at ho
  split at ho
  · obtain ⟨hR, ho1, ho2⟩ := ho
    obtain ⟨v', vs, rfl, h2, hv1⟩ := hv.cons'
    rcases h2.isR hR with ⟨e1, rfl⟩ | ⟨j, a, e1, rfl, h3⟩
    · exact lv_ifnonnullN C.1 C.2.1 hd (hkf _ _ _ _ _ (ho1 e1) z1 z2 Rl H locs lsC _ hm hr hv1 hl hS)
    · exact lv_ifnonnull C.1 C.2.1 hd ht (hkt _ _ _ _ _ (ho2 (by rw [e1]; intro q; cases q)) z1 z2 Rl H locs lsC _ hm hr hv1 hl hS)
  · exact ho.elim
/-- a switch: where it goes for x -/
def tgo (lo hi : Int) (dflt : Nat) (tg : List Nat) (x : Int32) : Nat := if x.toInt < lo ∨ hi < x.toInt then dflt else tg.getD (x.toInt - lo).toNat dflt
def o_tsw (lo hi : Int) (dflt : Nat) (tg : List Nat) (X : Nat → KT) : KT := fun ls st h n1 n2 => match st with
  | .int x :: st' => X (tgo lo hi dflt tg x) ls st' h n1 n2
  | _ => False
theorem s_tsw (C : CX p R s m args c D base nL cc own d) {X : Nat → KT} (hX : ∀ pc, Sd p l e R s m args below meth c Q D base nL Rl0 pc (X pc)) {dflt lo hi : Int} {offs : Array Int} {len dt : Nat} {tg : List Nat} (hd : decode cc pc = .ok (.tableswitch dflt lo hi offs, len)) (hdt : (pc : Int) + dflt = (dt : Int))
    (hlen : (tg.length : Int) = hi - lo + 1) (ho2 : ∀ k, k < tg.length → ∃ off, offs[k]? = some off ∧ (pc : Int) + off = ((tg.getD k dt : Nat) : Int)) : Sd p l e R s m args below meth c Q D base nL Rl0 pc (o_tsw lo hi dt tg X) := by
  intro ls st h n1 n2 ho z1 z2 Rl H locs lsC stC hm hr hv hl hS
  unfold o_tsw at ho
  split at ho
  · rename_i x st'
    obtain ⟨vs, rfl, hv1⟩ := hv.int'
    by_cases hx : x.toInt < lo ∨ hi < x.toInt
    · have e1 : tgo lo hi dt tg x = dt := by unfold tgo; rw [if_pos hx]
      rw [e1] at ho
      exact lv_tableOut C.1 C.2.1 hd hx hdt (hX _ _ _ _ _ _ ho z1 z2 Rl H locs lsC _ hm hr hv1 hl hS)
    · have e1 : tgo lo hi dt tg x = tg.getD (x.toInt - lo).toNat dt := by unfold tgo; rw [if_neg hx]
      rw [e1] at ho
      have hx' := not_or.mp hx
      obtain ⟨off, g1, g2⟩ := ho2 (x.toInt - lo).toNat (by omega)
      exact lv_tableIn C.1 C.2.1 hd hx'.1 hx'.2 g1 g2 (hX _ _ _ _ _ _ ho z1 z2 Rl H locs lsC _ hm hr hv1 hl hS)
  · exact ho.elim
end ZOPS
