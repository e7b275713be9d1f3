/-! New cells, calls, ends -/
section ZCALL
variable {p : Program} {l : Launch} {e : Env} {R : Room} {s : State} {m : MethodId} {args : Array Value} {below : List Frame} {meth : Method} {c : Code} {Q : State → Prop} {D : DD} {base nL : Nat} {Rl0 : Nat → Nat → Prop} {cc : ByteArray} {own : String} {d pc : Nat} {K : KT}
theorem wN_off {h : HP} {k j n : Nat} : ∀ a c, ¬ (a = k ∧ c = j) → mL (wN h k j n) a c = mL h a c ∧ ∀ y, mI (wN h k j n) a y c = mI h a y c ∧ mJ (wN h k j n) a y c = mJ h a y c ∧ mP (wN h k j n) a y c = mP h a y c := fun a c hn => ⟨by rw [mL_wN, if_neg hn], fun y => ⟨by rw [mI_wN, if_neg hn], by rw [mJ_wN, if_neg hn], by rw [mP_wN, if_neg hn]⟩⟩
def okT (t : FieldType) : Bool := match t with
  | .float => false
  | .double => false
  | _ => true
theorem mV_new {Rl : Nat → Nat → Prop} {h : HP} {k i j n : Nat} (ht : okT (tyK k i) = true) : VR Rl (mV (wN h k j n) k i j) (defaultValue (tyK k i)) := by
  unfold mV
  simp only [mI_wN, mJ_wN, mP_wN, and_self, if_true]
  cases hq : tyK k i <;> rw [hq] at ht <;> first | rfl | cases ht
/-- room for what is made: MC cells, MS slots in all -/
def o_new (MC MS k N : Nat) (K : KT) : KT := fun ls st h n1 n2 => n1 + 1 ≤ MC ∧ n2 + N ≤ MS ∧ ∃ j, mA h k j = false ∧ K ls (.ref (ob k j) :: st) (wN h k j 0) (n1 + 1) (n2 + N)
theorem s_new (C : CX p R s m args c D base nL cc own d) {MC MS : Nat} (hMC : R.cells = MC) (hMS : R.slots = MS) {k N idx : Nat} {RX : String} {TX : u_T} {ty : Nat → FieldType} (hT : CT k RX TX ty N) (hok : ∀ x, x < N → okT (ty x) = true) (hw : Cond.classLink own idx RX ∈ TB) (hw2 : Cond.instantiable RX N ∈ TB) (hw3 : Cond.initialized RX ∈ TB) (hd : decode cc pc = .ok (.new idx, 3)) (hk : Sd p l e R s m args below meth c Q D base nL Rl0 (pc + 3) K) : Sd p l e R s m args below meth c Q D base nL Rl0 pc (o_new MC MS k N K) := by
  intro ls st h n1 n2 ⟨r1, r2, j, hj, ho⟩ z1 z2 Rl H locs lsC stC hm hr hv hl hS
  obtain ⟨hc, hin, hk8, hN, hty, hnm, htk⟩ := hT
  have hKn := C.2.2.2.2.2.1.1.1 k _ hc
  have hb : base ≤ H.size := Nat.le_trans C.2.2.2.2.2.2.1 hS.1
  refine W.newcK C.1 C.2.1 C.2.2.2.1 (C.2.2.2.2.1 _ hw) (C.2.2.2.2.1 _ hw2) (C.2.2.2.2.1 _ hw3) rfl hd (by omega) (by omega) hKn.2.1 rfl fun H1 kC hkC e1 z o1 => ?_
  have hC : CRel D (fun i a => Rl i a ∨ (i = ob k j ∧ a = H.size)) s (wN h k j 0) k j H.size H1 := by
    unfold CRel
    rw [if_pos hk8, hN]
    refine ⟨_, u_born ty C.2.2.2.2.1 hin hKn hkC e1 hty, fun x hx => ?_⟩
    rw [← htk x]
    exact mV_new (by rw [htk x]; exact hok x hx)
  have hr' := hr.al (k := k) (j := j) (by omega) (by omega) hj hb o1 (fun _ _ => rfl) wN_off hC
  exact hk _ _ _ _ _ ho (by omega) (by omega) _ H1 locs lsC _ (fun i a q => Or.inl (hm i a q)) hr' ⟨⟨H.size, rfl, Or.inr ⟨rfl, rfl⟩⟩, hv.mono (fun _ _ q => Or.inl q)⟩ (hl.mono (fun _ _ q => Or.inl q)) ⟨Nat.le_trans hS.1 (by omega), fun x h1 h2 => (o1 x (Nat.lt_of_lt_of_le h1 hS.1)).trans (hS.2.1 x h1 h2), hS.2.2⟩
def o_newa (MC MS k : Nat) (K : KT) : KT := fun ls st h n1 n2 => match st with
  | .int n :: st' => ¬ n < 0 ∧ n.toNatClampNeg ≤ 10000 ∧ n1 + 1 ≤ MC ∧ n2 + n.toNatClampNeg ≤ MS ∧ ∃ j, mA h k j = false ∧ K ls (.ref (ob k j) :: st') (wN h k j n.toNatClampNeg) (n1 + 1) (n2 + n.toNatClampNeg)
  | _ => False
theorem arr_new {Rl : Nat → Nat → Prop} {h : HP} {H H1 : Heap} {k j n : Nat} {ty : FieldType} (hr : HR D Rl base s h H) (hk8 : 8 ≤ k) (hk : k < 127) (hty : tyK k 0 = ty) (hok : okT ty = true) (hj : mA h k j = false) (hb : base ≤ H.size) (e1 : H1[H.size]? = some (arrV (D.2.2 k) n (fun _ => defaultValue ty))) (o1 : ∀ q, q < H.size → H1[q]? = H[q]?) :
    HR D (fun i a => Rl i a ∨ (i = ob k j ∧ a = H.size)) base s (wN h k j n) H1 := by
  refine hr.al (k := k) (j := j) (by omega) (by omega) hj hb o1 (fun _ _ => rfl) wN_off ?_
  unfold CRel
  rw [if_neg (by omega), if_neg (by omega)]
  refine ⟨fun _ => defaultValue ty, ?_, fun x hx => ?_⟩
  · rw [mL_wN, if_pos ⟨rfl, rfl⟩]
    exact e1
  · have e2 : tyK k x = ty := (tyK_j x 0 hk8).trans hty
    rw [← e2]
    exact mV_new (by rw [e2]; exact hok)
theorem s_newa (C : CX p R s m args c D base nL cc own d) {MC MS : Nat} (hMC : R.cells = MC) (hMS : R.slots = MS) {k : Nat} {atype : ArrayType} (hk8 : 8 ≤ k) (hk127 : k < 96) (hty : tyK k 0 = newarray.typeOf atype) (hok : okT (newarray.typeOf atype) = true) (hw : Cond.arrayClass (newarray.typeOf atype) ∈ TB) (hd : decode cc pc = .ok (.newarray atype, 2)) (hk : Sd p l e R s m args below meth c Q D base nL Rl0 (pc + 2) K) : Sd p l e R s m args below meth c Q D base nL Rl0 pc (o_newa MC MS k K) := by
  intro ls st h n1 n2 ho z1 z2 Rl H locs lsC stC hm hr hv hl hS
  unfold o_newa at ho
  split at ho
  · rename_i n st'
    obtain ⟨hn, hn2, r1, r2, j, hj, ho⟩ := ho
    obtain ⟨vs, rfl, hv1⟩ := hv.int'
    have hb : base ≤ H.size := Nat.le_trans C.2.2.2.2.2.2.1 hS.1
    refine va_newaK C.1 C.2.1 (C.2.2.2.2.1 _ hw) rfl hd rfl hn rfl ?_ (by omega) (by omega) rfl fun H1 cA e1 z o1 hAr hNm => ?_
    · cases atype <;> simp only [newarray.typeOf, componentBytes] <;> omega
    · have h5 := (C.2.2.2.2.2.1.2.1 k hk8).2
      rw [hty] at h5
      have hcA : cA = D.2.2 k := by
        have h6 : s.vm.findClass ("[" ++ (newarray.typeOf atype).toString) = some (D.2.2 k) := by cases atype <;> exact h5
        exact Option.some.inj (hNm.symm.trans h6)
      subst hcA
      have hr' := arr_new hr hk8 (by omega) hty hok hj hb e1 o1
      exact hk _ _ _ _ _ ho (by omega) (by omega) _ H1 locs lsC _ (fun i a q => Or.inl (hm i a q)) hr' ⟨⟨H.size, rfl, Or.inr ⟨rfl, rfl⟩⟩, hv1.mono (fun _ _ q => Or.inl q)⟩ (hl.mono (fun _ _ q => Or.inl q)) ⟨Nat.le_trans hS.1 (by omega), fun x h1 h2 => (o1 x (Nat.lt_of_lt_of_le h1 hS.1)).trans (hS.2.1 x h1 h2), hS.2.2⟩
  · exact ho.elim
theorem s_newr (C : CX p R s m args c D base nL cc own d) {MC MS : Nat} (hMC : R.cells = MC) (hMS : R.slots = MS) {k idx : Nat} {RX : String} (hk8 : 8 ≤ k) (hk127 : k < 127) (hty : tyK k 0 = .object RX) (hRX : RX ∈ [RX5, RX3, RX1]) (hw : Cond.classLink own idx RX ∈ TB) (hd : decode cc pc = .ok (.anewarray idx, 3)) (hk : Sd p l e R s m args below meth c Q D base nL Rl0 (pc + 3) K) : Sd p l e R s m args below meth c Q D base nL Rl0 pc (o_newa MC MS k K) := by
  intro ls st h n1 n2 ho z1 z2 Rl H locs lsC stC hm hr hv hl hS
  unfold o_newa at ho
  split at ho
  · rename_i n st'
    obtain ⟨hn, hn2, r1, r2, j, hj, ho⟩ := ho
    obtain ⟨vs, rfl, hv1⟩ := hv.int'
    have hb : base ≤ H.size := Nat.le_trans C.2.2.2.2.2.2.1 hS.1
    refine W.anew C.1 C.2.1 C.2.2.2.1 (C.2.2.2.2.1 _ hw) (va_AO.use (C.2.2.2.2.2.1.2.2.2 RX hRX)) rfl hd rfl hn (by omega) (by omega) (by omega) fun cA kA comp f1 f2 f3 f4 => ?_
    have h5 := (C.2.2.2.2.2.1.2.1 k hk8).2
    rw [hty] at h5
    obtain ⟨kA', comp', -, -, -, h6⟩ := h5
    have hcA : cA = D.2.2 k := Option.some.inj (f1.symm.trans h6)
    subst hcA
    generalize hH1 : H.push ({ cls := D.2.2 k, slots := Array.replicate n.toNatClampNeg .null, vm := .none } : Cell) = H1
    have z1 : H1.size = H.size + 1 := by rw [← hH1, Array.size_push]
    have e1 : H1[H.size]? = some (arrV (D.2.2 k) n.toNatClampNeg (fun _ => .null)) := by rw [← hH1, Array.getElem?_push_size, ← arrV_new]
    have o1 : ∀ q : Nat, q < H.size → H1[q]? = H[q]? := fun q hq => by rw [← hH1, Array.getElem?_push, if_neg (Nat.ne_of_lt hq)]
    have hr' := arr_new (n := n.toNatClampNeg) hr hk8 hk127 hty rfl hj hb e1 o1
    exact hk _ _ _ _ _ ho (by omega) (by omega) _ H1 locs lsC _ (fun i a q => Or.inl (hm i a q)) hr' ⟨⟨H.size, rfl, Or.inr ⟨rfl, rfl⟩⟩, hv1.mono (fun _ _ q => Or.inl q)⟩ (hl.mono (fun _ _ q => Or.inl q)) ⟨Nat.le_trans hS.1 (by omega), fun x h1 h2 => (o1 x (Nat.lt_of_lt_of_le h1 hS.1)).trans (hS.2.1 x h1 h2), hS.2.2⟩
  · exact ho.elim
/-- the room that values take on the stack -/
def cats : List Value → Nat
  | [] => 0
  | v :: l => v.category + cats l
theorem cats_nil : cats [] = 0 := rfl
theorem cats_cons (v : Value) (l : List Value) : cats (v :: l) = v.category + cats l := rfl
theorem VL.sumC {Rl : Nat → Nat → Prop} : ∀ {us vs : List Value}, VL Rl us vs → (vs.map fun v => v.category).sum = cats us
  | [], [], _ => rfl
  | u :: us, v :: vs, h => by
    have h1 : v.category = u.category := h.1.cat
    simp only [List.map_cons, List.sum_cons, cats_cons]
    rw [VL.sumC h.2, h1]
/-- Object's constructor -/
def o_obj (K : KT) : KT := fun ls st h n1 n2 => match st with
  | .ref _ :: st' => cats st' ≤ 8 ∧ K ls st' h n1 n2
  | _ => False
theorem cat_le : ∀ (l : List Value), (l.map fun v => v.category).sum ≤ 2 * l.length
  | [] => by simp
  | v :: l => by
    have h1 := cat_le l
    have h2 : v.category ≤ 2 := by rcases lv_cat v with q | q <;> omega
    simp only [List.map_cons, List.sum_cons, List.length_cons]
    omega
theorem s_obj (C : CX p R s m args c D base nL cc own d) {idx : Nat} (hw : Cond.methodLink own idx objectInit ∈ TB) (hw2 : Cond.instanceMethod objectInit ∈ TB) (hw3 : Cond.code objectInit ⟨#[0xb1]⟩ 1 none ∈ TB) (hd : decode cc pc = .ok (.invokespecial idx, 3)) (hk : Sd p l e R s m args below meth c Q D base nL Rl0 (pc + 3) K) : Sd p l e R s m args below meth c Q D base nL Rl0 pc (o_obj K) := by
  intro ls st h n1 n2 ho z1 z2 Rl H locs lsC stC hm hr hv hl hS
  unfold o_obj at ho
  split at ho
  · rename_i id st'
    obtain ⟨hlen, ho⟩ := ho
    obtain ⟨a, vs, rfl, ha, hv1⟩ := hv.ref'
    have h2 := hv1.sumC
    refine W.objInit C.1 C.2.1 C.2.2.2.1 (C.2.2.2.2.1 _ hw) (C.2.2.2.2.1 _ hw2) (C.2.2.2.2.1 _ hw3) rfl (by rw [C.2.2.1]; exact hl.1) rfl hd (by have := C.2.2.2.2.2.2.2.1; omega) ?_ (W.eq (g2 := F0 m (pc + 3) lsC vs) rfl (hk _ _ _ _ _ ho z1 z2 Rl H locs lsC _ hm hr hv1 hl hS))
    show 2 * 0 + _ + 12 ≤ R.locals
    have := C.2.2.2.2.2.2.2.2
    omega
  · exact ho.elim
/-- behind a call -/
theorem run_use {Rl : Nat → Nat → Prop} {Qp : List Value → HP → Prop} {a : Array Value} {lsC : Array Slot} {stC restC : List Value} {H : Heap} {locs : List Loc} {n1 n2 mc ms : Nat} (hr : va_Run p l e R s m args below meth c H locs n1 n2 mc ms (F0 m pc lsC stC) restC (QcR D base Rl Qp a) (fun q => base ≤ q)) (hS : va_S (fun q => base ≤ q) s.heap H locs)
    (kk : ∀ (Rl' : Nat → Nat → Prop) (r : List Value) (rC : Option Value) (h' : HP) (H1 : Heap) (locs1 : List Loc), (∀ i a, Rl i a → Rl' i a) → VL Rl' r rC.toList → HR D Rl' base s h' H1 → Qp r h' → va_S (fun q => base ≤ q) s.heap H1 locs1 → W p l e R s m args below meth c H1 locs1 (n1 + mc) (n2 + ms) Q (F0 m (pc + 3) lsC (rC.toList ++ restC))) :
    W p l e R s m args below meth c H locs n1 n2 Q (F0 m pc lsC stC) := by
  intro T hT X
  obtain ⟨v, st₀, t, T', L, h0, X', hL, e1, e2, ⟨⟨Rl', r, rC, h', hmm, ho, hvl, hrr, hq⟩, hz, hk⟩, st⟩ := hr T hT X
  cases ho
  rw [h0] at hz hk
  have hal : t.vm.Alike s.vm := by rw [← e2]; exact X'.warmed.alike.symm
  obtain ⟨t2, a1, b1⟩ := kk Rl' r v h' T'.heap (locs ++ L) hmm hvl (by rw [e1]; exact hrr.moved hal) hq
    ⟨Nat.le_trans hS.1 (by rw [e1]; exact hz), fun q h1 h2 => by rw [e1, hk q (Nat.lt_of_lt_of_le h1 hS.1) h2]; exact hS.2.1 q h1 h2, fun q hq => by
      rcases List.mem_append.mp hq with h | h
      · exact hS.2.2 q h
      · exact hL q h⟩ T' rfl X'
  exact ⟨t2, st t2 a1, b1⟩
/-- calls: of static methods, of methods of an object, of constructors; mc cells and ms slots may come -/
def o_invS (MC MS mc ms : Nat) (Cl : List Value → HP → (List Value → HP → Prop) → Prop) (n : Nat) (K : KT) : KT := fun ls st h n1 n2 => n ≤ st.length ∧ cats (st.drop n) ≤ 8 ∧ n1 + mc ≤ MC ∧ n2 + ms ≤ MS ∧ Cl (st.take n).reverse h (fun r h' => K ls (r ++ st.drop n) h' (n1 + mc) (n2 + ms))
def o_invV (MC MS mc ms k : Nat) (Cl : List Value → HP → (List Value → HP → Prop) → Prop) (n : Nat) (K : KT) : KT := fun ls st h n1 n2 => n ≤ st.length ∧ match st.drop n with
  | .ref b :: st' => AL h k b ∧ cats st' ≤ 8 ∧ n1 + mc ≤ MC ∧ n2 + ms ≤ MS ∧ Cl (.ref b :: (st.take n).reverse) h (fun r h' => K ls (r ++ st') h' (n1 + mc) (n2 + ms))
  | _ => False
def o_invI (MC MS mc ms : Nat) (Cl : List Value → HP → (List Value → HP → Prop) → Prop) (n : Nat) (K : KT) : KT := fun ls st h n1 n2 => n ≤ st.length ∧ match st.drop n with
  | .ref b :: st' => cats st' ≤ 8 ∧ n1 + mc ≤ MC ∧ n2 + ms ≤ MS ∧ Cl (.ref b :: (st.take n).reverse) h (fun r h' => K ls (r ++ st') h' (n1 + mc) (n2 + ms))
  | _ => False
theorem CX.fix (C : CX p R s m args c D base nL cc own d) : CallFix p m c cc nL s args TB own := ⟨C.1, C.2.1, C.2.2.1, C.2.2.2.1, C.2.2.2.2.1⟩
theorem TB_wsm {y : MethodName} {cb : ByteArray} {mx : Nat} {ret : Option FieldType} (h5 : Cond.code y cb mx ret ∈ TB) : GoodIn TB (wsm y cb mx ret) := TB_good (fun w hw => by
  rcases List.mem_cons.mp hw with rfl | h
  · exact h5
  · exact h)
theorem pre_of (C : CX p R s m args c D base nL cc own d) {Rl : Nat → Nat → Prop} {h : HP} {H : Heap} {asC : List Value} {locs : List Loc} (hr : HR D Rl base s h H) (hS : va_S (fun q => base ≤ q) s.heap H locs) : PreS s H (PcR D base Rl asC h) asC :=
  ⟨PcR.blind, fun U hU hW => ⟨rfl, by rw [hU]; exact Nat.le_trans C.2.2.2.2.2.2.1 hS.1, C.2.2.2.2.2.1.moved hW, by rw [hU]; exact hr.moved hW.alike⟩⟩
/-- what is the same in all calls: the stack as it stands for n values given -/
theorem stk {Rl : Nat → Nat → Prop} {st stC : List Value} (n : Nat) (hn : n ≤ st.length) (hv : VL Rl st stC) : stC = ((stC.take n).reverse).reverse ++ stC.drop n ∧ ((stC.take n).reverse).length = n ∧ VL Rl (st.take n).reverse (stC.take n).reverse ∧ VL Rl (st.drop n) (stC.drop n) := by
  refine ⟨by rw [List.reverse_reverse, List.take_append_drop], ?_, (hv.take n).rev, hv.drop n⟩
  rw [List.length_reverse, List.length_take, hv.len]
  omega
def CI (y : MethodName) (cb : ByteArray) (mx n : Nat) (ret : Option FieldType) : Prop := (y.cls ≠ "java/lang/invoke/MethodHandle" ∧ y.cls ≠ "java/lang/invoke/VarHandle" ∧ (parseMethodDescriptor y.desc).map (fun d => d.parameters.length) = some n) ∧ mx ≤ 21 ∧ Cond.code y cb mx ret ∈ TB ∧ Cond.initialized y.cls ∈ TB
theorem lnk_s (C : CX p R s m args c D base nL cc own d) {y : MethodName} {cb : ByteArray} {mx n idx mc ms : Nat} {ret : Option FieldType} (hI : CI y cb mx n ret) (hw : Cond.methodLink own idx y ∈ TB) : CallB R s args own idx y cb mx ret (wsm y cb mx ret) (rmk d mc ms) mc ms n :=
  callB_of n C.2.2.2.2.1 (TB_wsm hI.2.2.1) rfl rfl rfl (C.2.2.2.2.1 _ hI.2.2.2) (C.2.2.2.2.1 _ hw) hI.1 ⟨C.2.2.2.2.2.2.2.1, by have h1 := C.2.2.2.2.2.2.2.2; have h2 := hI.2.1; show 8 + (mx + 11) + 40 * d ≤ R.locals; omega⟩
theorem lnk_n (C : CX p R s m args c D base nL cc own d) {y : MethodName} {cb : ByteArray} {mx n idx mc ms : Nat} {ret : Option FieldType} (hI : CI y cb mx n ret) (hw : (own, idx, y) ∈ TN) : va_CN R s args own idx y "TapeHall" cb mx ret (wsm y cb mx ret) (rmk d mc ms) mc ms n :=
  va_cnB n C.2.2.2.2.1 (TB_wsm hI.2.2.1) rfl rfl rfl (C.2.2.2.2.2.1.2.2.1 _ hw) (C.2.2.2.2.1 _ hI.2.2.2) hI.1 ⟨C.2.2.2.2.2.2.2.1, by have h1 := C.2.2.2.2.2.2.2.2; have h2 := hI.2.1; show 8 + (mx + 11) + 40 * d ≤ R.locals; omega⟩
theorem catst {Rl : Nat → Nat → Prop} {st vs : List Value} {lsC : Array Slot} {st2 : List Value} (hv : VL Rl st vs) (h : cats st ≤ 8) : 2 * (F0 m pc lsC st2).monitorRoom + (vs.map fun v => v.category).sum ≤ 8 := lv_room (by
  rw [hv.sumC]
  exact h)
theorem s_invS (C : CX p R s m args c D base nL cc own d) {MC MS mc ms : Nat} (hMC : R.cells = MC) (hMS : R.slots = MS) {y : MethodName} {cb : ByteArray} {mx n idx : Nat} {ret : Option FieldType} (hI : CI y cb mx n ret) (hw : Cond.methodLink own idx y ∈ TB) (hst : Cond.static y ∈ TB) (hd : decode cc pc = .ok (.invokestatic idx, 3)) (hk : Sd p l e R s m args below meth c Q D base nL Rl0 (pc + 3) K) : Sd p l e R s m args below meth c Q D base nL Rl0 pc (o_invS MC MS mc ms (Cn l D d y cb mx ret mc ms) n K) := by
  intro ls st h n1 n2 ⟨g1, g2, g3, g4, ho⟩ z1 z2 Rl H locs lsC stC hm hr hv hl hS
  obtain ⟨k1, k2, k3, k4⟩ := stk n g1 hv
  refine run_use (va_runS (As := (stC.take n).reverse) (rest := stC.drop n) C.fix (ho base Rl _ k3) ⟨lnk_s C hI hw, C.2.2.2.2.1 _ hst⟩ (pre_of C hr hS) rfl k2 hl.1 k1 (catst k4 g2) hd (by omega)) hS fun Rl' r rC h' H1 locs1 q1 q2 q3 q4 q5 => ?_
  exact hk _ _ _ _ _ q4 (by omega) (by omega) Rl' H1 locs1 lsC _ (fun i a q => q1 i a (hm i a q)) q3 (q2.app (k4.mono q1)) (hl.mono q1) q5
theorem s_invSN (C : CX p R s m args c D base nL cc own d) {MC MS mc ms : Nat} (hMC : R.cells = MC) (hMS : R.slots = MS) {y : MethodName} {cb : ByteArray} {mx n idx : Nat} {ret : Option FieldType} (hI : CI y cb mx n ret) (hw : (own, idx, y) ∈ TN) (hst : Cond.static y ∈ TB) (hd : decode cc pc = .ok (.invokestatic idx, 3)) (hk : Sd p l e R s m args below meth c Q D base nL Rl0 (pc + 3) K) : Sd p l e R s m args below meth c Q D base nL Rl0 pc (o_invS MC MS mc ms (Cn l D d y cb mx ret mc ms) n K) := by
  intro ls st h n1 n2 ⟨g1, g2, g3, g4, ho⟩ z1 z2 Rl H locs lsC stC hm hr hv hl hS
  obtain ⟨k1, k2, k3, k4⟩ := stk n g1 hv
  refine run_use (va_runSN (As := (stC.take n).reverse) (rest := stC.drop n) C.fix (ho base Rl _ k3) ⟨lnk_n C hI hw, C.2.2.2.2.1 _ hst, trivial⟩ (pre_of C hr hS) rfl k2 hl.1 k1 (catst k4 g2) hd (by omega)) hS fun Rl' r rC h' H1 locs1 q1 q2 q3 q4 q5 => ?_
  exact hk _ _ _ _ _ q4 (by omega) (by omega) Rl' H1 locs1 lsC _ (fun i a q => q1 i a (hm i a q)) q3 (q2.app (k4.mono q1)) (hl.mono q1) q5
theorem s_invV (C : CX p R s m args c D base nL cc own d) {MC MS mc ms : Nat} (hMC : R.cells = MC) (hMS : R.slots = MS) {y : MethodName} {cb : ByteArray} {mx n idx k N : Nat} {ret : Option FieldType} {RX : String} {TX : u_T} {ty : Nat → FieldType} (hT : CT k RX TX ty N) (hyc : y.cls = RX) (hI : CI y cb mx n ret) (hw : Cond.methodLink own idx y ∈ TB) (hin : Cond.instanceMethod y ∈ TB) (hse : Cond.selects RX y y ∈ TB) (hd : decode cc pc = .ok (.invokevirtual idx, 3)) (hk : Sd p l e R s m args below meth c Q D base nL Rl0 (pc + 3) K) : Sd p l e R s m args below meth c Q D base nL Rl0 pc (o_invV MC MS mc ms k (Cn l D d y cb mx ret mc ms) n K) := by
  intro ls st h n1 n2 ⟨g1, ho⟩ z1 z2 Rl H locs lsC stC hm hr hv hl hS
  obtain ⟨k1, k2, k3, k4⟩ := stk n g1 hv
  split at ho
  · rename_i b st' hdr
    obtain ⟨hal, g2, g3, g4, ho⟩ := ho
    rw [hdr] at k4
    obtain ⟨a, vs, hvs, ha, k4⟩ := k4.ref'
    obtain ⟨V, ⟨cell, q1, q2, q3, -⟩, -, -⟩ := hal.obj hr ha hT.2.2.1 (by have := hT.2.2.1; omega)
    have hfc := (C.2.2.2.2.2.1.1.1 k _ hT.1).2.1
    refine run_use (va_runV (As := (stC.take n).reverse) (rest := vs) C.fix (ho base Rl (.ref a :: (stC.take n).reverse) ⟨⟨a, rfl, ha⟩, k3⟩) ⟨lnk_s C hI hw, C.2.2.2.2.1 _ hin, C.2.2.2.2.1 _ hse⟩ ⟨PcR.blind, ⟨cell, q1, by rw [q3]; rfl, by rw [q2]; exact hfc⟩, (pre_of C hr hS).2⟩ rfl k2 hl.1 (by rw [← hvs]; exact k1) (catst k4 g2) hd (by omega)) hS fun Rl' r rC h' H1 locs1 q1 q2 q3 q4 q5 => ?_
    exact hk _ _ _ _ _ q4 (by omega) (by omega) Rl' H1 locs1 lsC _ (fun i a q => q1 i a (hm i a q)) q3 (q2.app (k4.mono q1)) (hl.mono q1) q5
  · exact ho.elim
theorem s_invI (C : CX p R s m args c D base nL cc own d) {MC MS mc ms : Nat} (hMC : R.cells = MC) (hMS : R.slots = MS) {y : MethodName} {cb : ByteArray} {mx n idx : Nat} (hy : y.name = "<init>") (hI : CI y cb mx n none) (hw : Cond.methodLink own idx y ∈ TB) (hin : Cond.instanceMethod y ∈ TB) (hd : decode cc pc = .ok (.invokespecial idx, 3)) (hk : Sd p l e R s m args below meth c Q D base nL Rl0 (pc + 3) K) : Sd p l e R s m args below meth c Q D base nL Rl0 pc (o_invI MC MS mc ms (Cn l D d y cb mx none mc ms) n K) := by
  intro ls st h n1 n2 ⟨g1, ho⟩ z1 z2 Rl H locs lsC stC hm hr hv hl hS
  obtain ⟨k1, k2, k3, k4⟩ := stk n g1 hv
  split at ho
  · rename_i b st' hdr
    obtain ⟨g2, g3, g4, ho⟩ := ho
    rw [hdr] at k4
    obtain ⟨a, vs, hvs, ha, k4⟩ := k4.ref'
    refine run_use (va_runI (As := (stC.take n).reverse) (rest := vs) C.fix (ho base Rl (.ref a :: (stC.take n).reverse) ⟨⟨a, rfl, ha⟩, k3⟩) ⟨lnk_s C hI hw, hy, C.2.2.2.2.1 _ hin⟩ (pre_of C hr hS) rfl k2 hl.1 (by rw [← hvs]; exact k1) (catst k4 g2) hd (by omega)) hS fun Rl' r rC h' H1 locs1 q1 q2 q3 q4 q5 => ?_
    exact hk _ _ _ _ _ q4 (by omega) (by omega) Rl' H1 locs1 lsC _ (fun i a q => q1 i a (hm i a q)) q3 (q2.app (k4.mono q1)) (hl.mono q1) q5
  · exact ho.elim
theorem s_invIN (C : CX p R s m args c D base nL cc own d) {MC MS mc ms : Nat} (hMC : R.cells = MC) (hMS : R.slots = MS) {y : MethodName} {cb : ByteArray} {mx n idx : Nat} (hy : y.name = "<init>") (hI : CI y cb mx n none) (hw : (own, idx, y) ∈ TN) (hin : Cond.instanceMethod y ∈ TB) (hd : decode cc pc = .ok (.invokespecial idx, 3)) (hk : Sd p l e R s m args below meth c Q D base nL Rl0 (pc + 3) K) : Sd p l e R s m args below meth c Q D base nL Rl0 pc (o_invI MC MS mc ms (Cn l D d y cb mx none mc ms) n K) := by
  intro ls st h n1 n2 ⟨g1, ho⟩ z1 z2 Rl H locs lsC stC hm hr hv hl hS
  obtain ⟨k1, k2, k3, k4⟩ := stk n g1 hv
  split at ho
  · rename_i b st' hdr
    obtain ⟨g2, g3, g4, ho⟩ := ho
    rw [hdr] at k4
    obtain ⟨a, vs, hvs, ha, k4⟩ := k4.ref'
    refine run_use (va_runIN (As := (stC.take n).reverse) (rest := vs) C.fix (ho base Rl (.ref a :: (stC.take n).reverse) ⟨⟨a, rfl, ha⟩, k3⟩) ⟨lnk_n C hI hw, hy, C.2.2.2.2.1 _ hin⟩ (pre_of C hr hS) rfl k2 hl.1 (by rw [← hvs]; exact k1) (catst k4 g2) hd (by omega)) hS fun Rl' r rC h' H1 locs1 q1 q2 q3 q4 q5 => ?_
    exact hk _ _ _ _ _ q4 (by omega) (by omega) Rl' H1 locs1 lsC _ (fun i a q => q1 i a (hm i a q)) q3 (q2.app (k4.mono q1)) (hl.mono q1) q5
  · exact ho.elim
/-! ends -/
def o_iret (Qp : List Value → HP → Prop) : KT := fun _ st h _ _ => match st with
  | [.int x] => Qp [.int x] h
  | _ => False
def o_zret (Qp : List Value → HP → Prop) : KT := fun _ st h _ _ => match st with
  | [.int x] => (x = 0 ∨ x = 1) ∧ Qp [.int x] h
  | _ => False
def o_lret (Qp : List Value → HP → Prop) : KT := fun _ st h _ _ => match st with
  | [.long x] => Qp [.long x] h
  | _ => False
def o_aret (Qp : List Value → HP → Prop) : KT := fun _ st h _ _ => match st with
  | [v] => isR v ∧ Qp [v] h
  | _ => False
def o_vret (Qp : List Value → HP → Prop) : KT := fun _ st h _ _ => match st with
  | [] => Qp [] h
  | _ => False
end ZCALL
section ZRET
variable {p : Program} {l : Launch} {e : Env} {s : State} {m : MethodId} {args : Array Value} {below : List Frame} {meth : Method} {c : Code} {D : DD} {base nL : Nat} {Rl0 : Nat → Nat → Prop} {cc : ByteArray} {own : String} {d pc D1 MC MS : Nat} {Qp : List Value → HP → Prop}
theorem qc_of {Rl : Nat → Nat → Prop} {h : HP} {H : Heap} {locs : List Loc} {a : Array Value} {r : List Value} {rC : Option Value} (hm : ∀ i a, Rl0 i a → Rl i a) (hr : HR D Rl base s h H) (hS : va_S (fun q => base ≤ q) s.heap H locs) (hv : VL Rl r rC.toList) (hq : Qp r h) : ∀ t : State, t.heap = H → s.WarmedH t.vm → QcR D base Rl0 Qp a s (.returned rC) t :=
  fun t ht hW => ⟨⟨Rl, r, rC, h, hm, rfl, hv, by rw [ht]; exact hr.moved hW.alike, hq⟩, hS.F ht⟩
abbrev QM (below : List Frame) (D : DD) (base : Nat) (Rl0 : Nat → Nat → Prop) (Qp : List Value → HP → Prop) (args : Array Value) (s : State) (MC MS : Nat) : State → Prop := MQ below (QcR D base Rl0 Qp) args s MC MS (fun q => base ≤ q)
theorem s_iret (C : CX p (rmk D1 MC MS) s m args c D base nL cc own d) (hl0 : meth.locks = false) (ht : meth.sig.returnType = some .int) (hd : decode cc pc = .ok (.ireturn, 1)) : Sd p l e (rmk D1 MC MS) s m args below meth c (QM below D base Rl0 Qp args s MC MS) D base nL Rl0 pc (o_iret Qp) := by
  intro ls st h n1 n2 ho z1 z2 Rl H locs lsC stC hm hr hv hl hS
  unfold o_iret at ho
  split at ho
  · obtain ⟨vs, rfl, hv1⟩ := hv.int'
    rw [hv1.nil']
    exact W.widen (k := MC) (n := MS) z1 z2 (W.iret C.1 C.2.1 ht (qc_of hm hr hS (r := [.int _]) ⟨rfl, trivial⟩ ho) hS.2.2 hd hl0)
  · exact ho.elim
theorem s_zret (C : CX p (rmk D1 MC MS) s m args c D base nL cc own d) (hl0 : meth.locks = false) (ht : meth.sig.returnType = some .boolean) (hd : decode cc pc = .ok (.ireturn, 1)) : Sd p l e (rmk D1 MC MS) s m args below meth c (QM below D base Rl0 Qp args s MC MS) D base nL Rl0 pc (o_zret Qp) := by
  intro ls st h n1 n2 ho z1 z2 Rl H locs lsC stC hm hr hv hl hS
  unfold o_zret at ho
  split at ho
  · obtain ⟨h01, ho⟩ := ho
    obtain ⟨vs, rfl, hv1⟩ := hv.int'
    rw [hv1.nil']
    exact W.widen (k := MC) (n := MS) z1 z2 (W.zret C.1 C.2.1 ht (by rcases h01 with rfl | rfl <;> rfl) (qc_of hm hr hS (r := [.int _]) ⟨rfl, trivial⟩ ho) hS.2.2 hd hl0)
  · exact ho.elim
theorem s_lret (C : CX p (rmk D1 MC MS) s m args c D base nL cc own d) (hl0 : meth.locks = false) (ht : meth.sig.returnType = some .long) (hd : decode cc pc = .ok (.lreturn, 1)) : Sd p l e (rmk D1 MC MS) s m args below meth c (QM below D base Rl0 Qp args s MC MS) D base nL Rl0 pc (o_lret Qp) := by
  intro ls st h n1 n2 ho z1 z2 Rl H locs lsC stC hm hr hv hl hS
  unfold o_lret at ho
  split at ho
  · obtain ⟨vs, rfl, hv1⟩ := hv.long'
    rw [hv1.nil']
    exact W.widen (k := MC) (n := MS) z1 z2 (W.lret C.1 C.2.1 ht (qc_of hm hr hS (r := [.long _]) ⟨rfl, trivial⟩ ho) hS.2.2 hd hl0)
  · exact ho.elim
theorem s_aret (C : CX p (rmk D1 MC MS) s m args c D base nL cc own d) (hl0 : meth.locks = false) {rt : FieldType} (ht : meth.sig.returnType = some rt) (hrt : isRT rt = true) (hd : decode cc pc = .ok (.areturn, 1)) : Sd p l e (rmk D1 MC MS) s m args below meth c (QM below D base Rl0 Qp args s MC MS) D base nL Rl0 pc (o_aret Qp) := by
  intro ls st h n1 n2 ho z1 z2 Rl H locs lsC stC hm hr hv hl hS
  unfold o_aret at ho
  split at ho
  · obtain ⟨hR, ho⟩ := ho
    obtain ⟨vC, vs, rfl, h2, hv1⟩ := hv.cons'
    rw [hv1.nil']
    have h3 : vC = .null ∨ ∃ a, vC = .ref a := by
      rcases h2.isR hR with ⟨-, q⟩ | ⟨_, a, -, q, -⟩
      · exact Or.inl q
      · exact Or.inr ⟨a, q⟩
    have h4 : (∃ n, rt = .object n) ∨ ∃ t, rt = .array t := by
      cases rt with
      | object n => exact Or.inl ⟨n, rfl⟩
      | array t => exact Or.inr ⟨t, rfl⟩
      | _ => cases hrt
    exact W.widen (k := MC) (n := MS) z1 z2 (W.aret C.1 C.2.1 ht h4 h3 (qc_of hm hr hS (r := [_]) (rC := some vC) ⟨h2, trivial⟩ ho) hS.2.2 hd hl0)
  · exact ho.elim
theorem s_vret (C : CX p (rmk D1 MC MS) s m args c D base nL cc own d) (hl0 : meth.locks = false) (ht : meth.sig.returnType = none) (hd : decode cc pc = .ok (.return_, 1)) : Sd p l e (rmk D1 MC MS) s m args below meth c (QM below D base Rl0 Qp args s MC MS) D base nL Rl0 pc (o_vret Qp) := by
  intro ls st h n1 n2 ho z1 z2 Rl H locs lsC stC hm hr hv hl hS
  unfold o_vret at ho
  split at ho
  · rw [hv.nil']
    exact W.widen (k := MC) (n := MS) z1 z2 (W.vret C.1 C.2.1 ht (qc_of hm hr hS (r := []) (rC := none) trivial ho) hS.2.2 hd hl0)
  · exact ho.elim
/-- the locals at a method's entry -/
def lay : List Value → List Value
  | [] => []
  | v :: vs => if v.category = 2 then v :: jk :: lay vs else v :: lay vs
theorem lay_i (x : Int32) (l : List Value) : lay (.int x :: l) = .int x :: lay l := rfl
theorem lay_l (x : Int64) (l : List Value) : lay (.long x :: l) = .long x :: jk :: lay l := rfl
theorem lay_r (x : Nat) (l : List Value) : lay (.ref x :: l) = .ref x :: lay l := rfl
theorem lay_n (l : List Value) : lay (.null :: l) = .null :: lay l := rfl
theorem lay_rf (o : Option Nat) (l : List Value) : lay (va_rf o :: l) = va_rf o :: lay l := by cases o <;> rfl
theorem lay_e : lay [] = [] := rfl
theorem lay_at {Rl : Nat → Nat → Prop} : ∀ {us vs : List Value}, VL Rl us vs → ∀ (q i : Nat) (v : Value), (lay us)[i]? = some v → isJ v = false → ∃ v', (q + i, v') ∈ lv_args q vs ∧ VR Rl v v'
  | [], [], _, q, i, v, h, _ => by simp [lay] at h
  | u :: us, w :: vs, hv, q, i, v, h, hj => by
    obtain ⟨hv1, hv2⟩ := hv
    have hc := hv1.cat
    unfold lay at h
    unfold lv_args
    by_cases h2 : u.category = 2
    · rw [if_pos h2] at h
      rw [if_pos (hc.trans h2)]
      match i, h with
      | 0, h =>
        simp only [List.getElem?_cons_zero, Option.some.injEq] at h
        subst h
        exact ⟨w, List.mem_cons_self, hv1⟩
      | 1, h =>
        simp only [List.getElem?_cons_succ, List.getElem?_cons_zero, Option.some.injEq] at h
        subst h
        cases hj
      | i + 2, h =>
        simp only [List.getElem?_cons_succ] at h
        obtain ⟨v', g1, g2⟩ := lay_at hv2 (q + 2) i v h hj
        exact ⟨v', List.mem_cons_of_mem _ (by rw [show q + (i + 2) = q + 2 + i by omega]; exact g1), g2⟩
    · rw [if_neg h2] at h
      rw [if_neg (by rw [hc]; exact h2)]
      match i, h with
      | 0, h =>
        simp only [List.getElem?_cons_zero, Option.some.injEq] at h
        subst h
        exact ⟨w, List.mem_cons_self, hv1⟩
      | i + 1, h =>
        simp only [List.getElem?_cons_succ] at h
        obtain ⟨v', g1, g2⟩ := lay_at hv2 (q + 1) i v h hj
        exact ⟨v', List.mem_cons_of_mem _ (by rw [show q + (i + 1) = q + 1 + i by omega]; exact g1), g2⟩
theorem lay_len {Rl : Nat → Nat → Prop} : ∀ {us vs : List Value}, VL Rl us vs → (lg_sl vs).length = (lay us).length
  | [], [], _ => rfl
  | u :: us, w :: vs, hv => by
    have ih := lay_len hv.2
    have hc := hv.1.cat
    unfold lay
    show ((if w.category = 2 then [Slot.val w, Slot.second] else [Slot.val w]) ++ lg_sl vs).length = _
    rw [hc]
    split <;> simp [ih] <;> omega
/-- a method's contract out of its walk -/
theorem Cn_intro {y : MethodName} {cb : ByteArray} {mx : Nat} {ret : Option FieldType} {as lsA : List Value} {h : HP} (hy : plainName y.cls = true) (hent : lay as ++ List.replicate (mx - (lay as).length) jk = lsA) (hle : (lay as).length ≤ mx)
    (body : ∀ (p : Program) (e : Env) (s : State) (m : MethodId) (args : Array Value) (below : List Frame) (meth : Method) (c : Code) (base : Nat) (Rl0 : Nat → Nat → Prop), CX p (rmk (d + 1) MC MS) s m args c D base mx cb y.cls d → meth.locks = false → meth.sig.returnType = ret → meth.name = y.name →
      Wm p l e (rmk (d + 1) MC MS) s m args below meth c (QM below D base Rl0 Qp args s MC MS) D base mx Rl0 0 lsA [] h 0 0) : Cn l D (d + 1) y cb mx ret MC MS as h Qp := by
  intro base Rl asC hv
  refine Met.ofW (cc := cb) (maxL := mx) (ret := ret) hy rfl ?_
  intro p e s m args below meth c s₁ B hml hP
  obtain ⟨rfl, hb, hK, hr⟩ := hP
  have hts := atoms_spec (ws := wsm y cb mx ret) B.pre
  have hown : s.vm.findClass y.cls = some m.cls := findClass_of_methodNamed B.named
  have hlen := lay_len hv
  have hl := lv_entry asC (n := mx) (by omega)
  rw [lg_entry_eq]
  generalize (lg_sl asC ++ List.replicate (mx - (lg_sl asC).length) Slot.unset).toArray = ls at hl ⊢
  refine body p e s m _ below meth c base Rl ⟨B.exec, B.bytes, hml, hown, fun w hw => hts w (List.mem_cons_of_mem _ hw), hK, hb, Nat.le_refl _, ?_⟩ B.notSynchronized B.returns (name_of_methodNamed B.named B.method).1 (Nat.zero_le _) (Nat.zero_le _) Rl s.heap [] ls [] (fun _ _ q => q) hr trivial ⟨hl.1, hl.2.1, fun i v hi hj => ?_⟩ va_S.rf
  · show 40 * d + 40 ≤ 40 * (d + 1)
    omega
  · rw [← hent] at hi
    by_cases hil : i < (lay as).length
    · rw [List.getElem?_append_left hil] at hi
      obtain ⟨v', g1, g2⟩ := lay_at hv 0 i v hi hj
      rw [Nat.zero_add] at g1
      exact ⟨v', hl.2.2 _ g1, g2⟩
    · rw [List.getElem?_append_right (by omega), List.getElem?_replicate] at hi
      split at hi
      · cases hi
        cases hj
      · cases hi
end ZRET
