section ZMORE
variable {p : Program} {l : Launch} {e : Env} {R : Room} {s : State} {m : MethodId} {args : Array Value} {below : List Frame} {meth : Method} {c : Code} {Q : State → Prop} {D : DD} {base nL : Nat} {Rl0 : Nat → Nat → Prop} {cc : ByteArray} {own : String} {d pc : Nat} {K : KT}
theorem sid : Sd p l e R s m args below meth c Q D base nL Rl0 pc (Wm p l e R s m args below meth c Q D base nL Rl0 pc) := fun _ _ _ _ _ q => q
theorem s_tswB (C : CX p R s m args c D base nL cc own d) {X : Nat → KT} (hX : ∀ pc, Sd p l e R s m args below meth c Q D base nL Rl0 pc (X pc)) {dflt lo hi : Int} {offs : Array Int} {len dt : Nat} {tg : List Nat} (hd : decode cc pc = .ok (.tableswitch dflt lo hi offs, len)) (hdt : (pc : Int) + dflt = (dt : Int))
    (hlen : (tg.length : Int) = hi - lo + 1) (ho2 : ((List.range tg.length).all fun k => match offs[k]? with
      | some off => decide ((pc : Int) + off = ((tg.getD k dt : Nat) : Int))
      | none => false) = true) : Sd p l e R s m args below meth c Q D base nL Rl0 pc (o_tsw lo hi dt tg X) := by
  refine s_tsw C hX hd hdt hlen (fun k hk => ?_)
  have h1 := List.all_eq_true.mp ho2 k (List.mem_range.mpr hk)
  revert h1
  cases offs[k]? with
  | none => intro h1; cases h1
  | some off => intro h1; exact ⟨off, rfl, of_decide_eq_true h1⟩
theorem arrV_cong {ci : ClassId} {n : Nat} {f g : Nat → Value} (h : ∀ x, x < n → f x = g x) : arrV ci n f = arrV ci n g := by
  unfold arrV
  congr 1
  apply Array.ext
  · simp
  · intro i h1 h2
    simp only [Array.getElem_ofFn]
    exact h i (by simpa using h1)
def o_acpy (K : KT) : KT := fun ls st h n1 n2 => match st with
  | .int n :: .int dp :: .ref b :: .int sp :: .ref a :: st' => (88 ≤ kd a ∧ kd a < 96) ∧ (88 ≤ kd b ∧ kd b < 96) ∧ ¬ sp < 0 ∧ ¬ dp < 0 ∧ ¬ n < 0 ∧ sp.toNatClampNeg + n.toNatClampNeg ≤ mL h (kd a) (ix a) ∧ dp.toNatClampNeg + n.toNatClampNeg ≤ mL h (kd b) (ix b) ∧ cats st' ≤ 8 ∧
      K ls st' (wR h (kd b) (ix b) (va_cpy (fun i => mJ h (kd a) i (ix a)) (fun i => mJ h (kd b) i (ix b)) sp.toNatClampNeg dp.toNatClampNeg n.toNatClampNeg)) n1 n2
  | _ => False
theorem wR_off {h : HP} {k j : Nat} {f : Nat → Int64} : ∀ a c, ¬ (a = k ∧ c = j) → mL (wR h k j f) a c = mL h a c ∧ ∀ y, mI (wR h k j f) a y c = mI h a y c ∧ mJ (wR h k j f) a y c = mJ h a y c ∧ mP (wR h k j f) a y c = mP h a y c := fun a c hn => ⟨rfl, fun y => ⟨rfl, by rw [mJ_wR, if_neg hn], rfl⟩⟩
set_option maxHeartbeats 1000000 in
theorem s_acpy (C : CX p R s m args c D base nL cc own d) {idx : Nat} (hw : Cond.methodLink own idx arraycopyName ∈ TB) (hw2 : Cond.native arraycopyName ∈ TB) (hw3 : Cond.static arraycopyName ∈ TB) (hw4 : Cond.initialized "java/lang/System" ∈ TB) (hd : decode cc pc = .ok (.invokestatic idx, 3)) (hk : Sd p l e R s m args below meth c Q D base nL Rl0 (pc + 3) K) : Sd p l e R s m args below meth c Q D base nL Rl0 pc (o_acpy K) := by
  intro ls st h n1 n2 ho z1 z2 Rl H locs lsC stC hm hr hv hl hS
  unfold o_acpy at ho
  split at ho
  · rename_i n dp idb sp ida st'
    obtain ⟨ka, kb, h1, h2, h3, h4, h5, hlen, ho⟩ := ho
    obtain ⟨vs, rfl, hv1⟩ := hv.int'
    obtain ⟨vs, rfl, hv2⟩ := hv1.int'
    obtain ⟨a, vs, rfl, hb, hv3⟩ := hv2.ref'
    obtain ⟨vs, rfl, hv4⟩ := hv3.int'
    obtain ⟨a0, vs, rfl, ha, hv5⟩ := hv4.ref'
    obtain ⟨V0, f1, f2, -⟩ := AR.at hr ha (by omega) (by omega)
    obtain ⟨V1, g1, g2, hba⟩ := AR.at hr hb (by omega) (by omega)
    generalize hc0 : D.2.2 (kd ida) = c0 at f1
    generalize hc1 : D.2.2 (kd idb) = c1 at g1
    generalize hn0 : mL h (kd ida) (ix ida) = N0 at f1 f2 h4
    generalize hn1 : mL h (kd idb) (ix idb) = N1 at g1 g2 h5
    rw [arrV_cong (g := fun x => .long (mJ h (kd ida) x (ix ida))) (fun x hx => by have q := f2 x hx; rw [mV_l h _ _ ka] at q; exact q)] at f1
    rw [arrV_cong (g := fun x => .long (mJ h (kd idb) x (ix idb))) (fun x hx => by have q := g2 x hx; rw [mV_l h _ _ kb] at q; exact q)] at g1
    generalize hf : (fun i => mJ h (kd ida) i (ix ida)) = f at ho
    generalize hg : (fun i => mJ h (kd idb) i (ix idb)) = g at ho
    have f1 : H[a0]? = some (arrV c0 N0 (fun x => .long (f x))) := by rw [f1, ← hf]
    have g1 : H[a]? = some (arrV c1 N1 (fun x => .long (g x))) := by rw [g1, ← hg]
    have q0 : ArrOfT s c0 .long := fun n V => by rw [← hc0]; exact C.2.2.2.2.2.1.arr (by omega) (tyK_l 0 ka) n V
    have q1 : ArrOfT s c1 .long := fun n V => by rw [← hc1]; exact C.2.2.2.2.2.1.arr (by omega) (tyK_l 0 kb) n V
    have nn : ∀ z : Int32, ¬ z < 0 → z.toInt = (z.toNatClampNeg : Int) := by
      intro z hz
      have hz0 : (0 : Int) ≤ z.toInt := by
        have := Int32.not_lt.mp hz
        simpa using Int32.le_iff_toInt_le.mp this
      show z.toInt = ((z.toInt.toNat : Nat) : Int)
      omega
    intro T hT X
    obtain ⟨-, k0, hk0, cm0, hkk0⟩ := q0 N0 (fun j => .long (f j))
    obtain ⟨-, k1, hk1, cm1, hkk1⟩ := q1 N1 (fun j => .long (g j))
    obtain ⟨vm', X', step⟩ := X.arraycopy C.1 C.2.2.2.1 (C.2.2.2.2.1 _ hw) (C.2.2.2.2.1 _ hw2) (C.2.2.2.2.1 _ hw3) (C.2.2.2.2.1 _ hw4) (src := a0) (dst := a) (cs := arrV c0 N0 (fun x => .long (f x))) (cd := arrV c1 N1 (fun x => .long (g x))) (srcPos := sp) (destPos := dp) (n := n) (by rw [hT]; exact f1) (by rw [hT]; exact g1)
      (fun _ h => by cases h) (fun _ h => by cases h) (fun h => by cases h) (fun h => by cases h) hk0 hk1 hkk0 hkk1 (by simp [refKind]) h1 h2 h3
      (by rw [nn sp h1, nn n h3]; show ¬ _ > ((arrV c0 N0 (fun j => .long (f j))).slots.size : Int); rw [arrV_size]; omega)
      (by rw [nn dp h2, nn n h3]; show ¬ _ > ((arrV c1 N1 (fun j => .long (g j))).slots.size : Int); rw [arrV_size]; omega)
      (fun vm₁ _ i hi => by
        have e : (arrV c0 N0 (fun x => .long (f x))).slots.getD (sp.toNatClampNeg + i) .null = .long (f (sp.toNatClampNeg + i)) := by
          rw [Array.getD_eq_getD_getElem?, arrV_read _ _ (by omega)]
          rfl
        refine ⟨?_, ?_⟩
        · rw [e]
          rfl
        · rw [e]
          exact trivial)
      (g := F0 m pc lsC (.int n :: .int dp :: .ref a :: .int sp :: .ref a0 :: vs)) rfl (by rw [C.2.2.1]; exact hl.1) (rest := vs) rfl (by rw [C.2.1]; exact hd) (by have := C.2.2.2.2.2.2.2.1; omega) (by
        have w1 := C.2.2.2.2.2.2.2.2
        have w2 := hv5.sumC
        have w4 : nativeFrameWords "java/lang/System" "arraycopy" 5 ≤ 20 := by decide
        show 2 * 0 + _ + _ ≤ R.locals
        omega)
    have e1 : copied (arrV c0 N0 (fun x => .long (f x))) (arrV c1 N1 (fun x => .long (g x))) sp dp n = arrV c1 N1 (fun x => .long (va_cpy f g sp.toNatClampNeg dp.toNatClampNeg n.toNatClampNeg x)) := va_copied (fun z => .long z) c0 c1 f g h4
    rw [e1] at X' step
    have hlt : a < H.size := (Array.getElem?_eq_some_iff.mp g1).1
    have hheap : ((T.setVm vm').setCell a (arrV c1 N1 (fun x => .long (va_cpy f g sp.toNatClampNeg dp.toNatClampNeg n.toNatClampNeg x)))).heap = H.setIfInBounds a (arrV c1 N1 (fun x => .long (va_cpy f g sp.toNatClampNeg dp.toNatClampNeg n.toNatClampNeg x))) := by rw [← hT]; rfl
    have oq : ∀ q : Nat, q ≠ a → (H.setIfInBounds a (arrV c1 N1 (fun x => .long (va_cpy f g sp.toNatClampNeg dp.toNatClampNeg n.toNatClampNeg x))))[q]? = H[q]? := fun q hq => by simp [Array.getElem?_setIfInBounds, Ne.symm hq]
    have hr' : HR D Rl base s (wR h (kd idb) (ix idb) (va_cpy f g sp.toNatClampNeg dp.toNatClampNeg n.toNatClampNeg)) (H.setIfInBounds a (arrV c1 N1 (fun x => .long (va_cpy f g sp.toNatClampNeg dp.toNatClampNeg n.toNatClampNeg x)))) := by
      refine hr.wr hb oq (fun _ _ => rfl) wR_off ?_
      unfold CRel
      rw [if_neg (by omega), if_neg (by omega)]
      refine ⟨fun x => .long (va_cpy f g sp.toNatClampNeg dp.toNatClampNeg n.toNatClampNeg x), ?_, fun x hx => ?_⟩
      · rw [mL_wR, hn1, hc1]
        simp [Array.getElem?_setIfInBounds, hlt]
      · rw [mV_l _ _ _ kb, mJ_wR, if_pos ⟨rfl, rfl⟩]
        rfl
    obtain ⟨t, a1, b1⟩ := hk _ _ _ _ _ ho z1 z2 Rl _ (locs ++ _) lsC _ hm hr' hv5 hl ⟨by simp; exact hS.1, fun q g1 g2 => by
        rw [oq q (fun e => g2 (by rw [e]; exact hba))]
        exact hS.2.1 q g1 g2, fun q hq => by
        rcases List.mem_append.mp hq with h | h
        · exact hS.2.2 q h
        · obtain ⟨z, -, hz⟩ := List.mem_map.mp h
          rw [← hz]
          exact hba⟩ _ hheap X'
    exact ⟨t, step t a1, b1⟩
  · exact ho.elim
/-! Math, by the library's contracts -/
def o_m2 (f : Int32 → Int32 → Int32) (K : KT) : KT := fun ls st h n1 n2 => match st with
  | .int y :: .int x :: st' => cats st' ≤ 8 ∧ K ls (.int (f x y) :: st') h n1 n2
  | _ => False
def o_m1 (f : Int32 → Int32) (K : KT) : KT := fun ls st h n1 n2 => match st with
  | .int x :: st' => cats st' ≤ 8 ∧ K ls (.int (f x) :: st') h n1 n2
  | _ => False
def o_ml (f : Int64 → Int64 → Int64) (K : KT) : KT := fun ls st h n1 n2 => match st with
  | .long y :: .long x :: st' => cats st' ≤ 8 ∧ K ls (.long (f x y) :: st') h n1 n2
  | _ => False
theorem roomM (C : CX p R s m args c D base nL cc own d) {Rl : Nat → Nat → Prop} {st vs : List Value} (hv : VL Rl st vs) (h : cats st ≤ 8) : (vs.map fun v => v.category).sum + 15 ≤ R.locals := by
  have w1 := C.2.2.2.2.2.2.2.2
  rw [hv.sumC]
  omega
theorem s_mmax (C : CX p R s m args c D base nL cc own d) {idx : Nat} (hw : Cond.methodLink own idx Lib.Math.max.name ∈ TB) (hw2 : Cond.static Lib.Math.max.name ∈ TB) (hw3 : Cond.initialized "java/lang/Math" ∈ TB) (hw4 : Cond.code Lib.Math.max.name Lib.Math.max.code 2 (some .int) ∈ TB) (hd : decode cc pc = .ok (.invokestatic idx, 3)) (hk : Sd p l e R s m args below meth c Q D base nL Rl0 (pc + 3) K) : Sd p l e R s m args below meth c Q D base nL Rl0 pc (o_m2 (fun x y => if x < y then y else x) K) := by
  intro ls st h n1 n2 ho z1 z2 Rl H locs lsC stC hm hr hv hl hS
  unfold o_m2 at ho
  split at ho
  · obtain ⟨hlen, ho⟩ := ho
    obtain ⟨vs, rfl, hv1⟩ := hv.int'
    obtain ⟨vs, rfl, hv2⟩ := hv1.int'
    exact va_mmax C.1 C.2.1 (by rw [C.2.2.1]; exact hl.1.symm) C.2.2.2.1 (C.2.2.2.2.1 _ hw) (C.2.2.2.2.1 _ hw2) (C.2.2.2.2.1 _ hw3) (C.2.2.2.2.1 _ hw4) (by have := C.2.2.2.2.2.2.2.1; omega) (by have := roomM C hv2 hlen; omega) z1 z2 hd (hk _ _ _ _ _ ho z1 z2 Rl H locs lsC _ hm hr ⟨rfl, hv2⟩ hl hS)
  · exact ho.elim
theorem s_mmin (C : CX p R s m args c D base nL cc own d) {idx : Nat} (hw : Cond.methodLink own idx Lib.Math.min.name ∈ TB) (hw2 : Cond.static Lib.Math.min.name ∈ TB) (hw3 : Cond.initialized "java/lang/Math" ∈ TB) (hw4 : Cond.code Lib.Math.min.name Lib.Math.min.code 2 (some .int) ∈ TB) (hd : decode cc pc = .ok (.invokestatic idx, 3)) (hk : Sd p l e R s m args below meth c Q D base nL Rl0 (pc + 3) K) : Sd p l e R s m args below meth c Q D base nL Rl0 pc (o_m2 (fun x y => if y < x then y else x) K) := by
  intro ls st h n1 n2 ho z1 z2 Rl H locs lsC stC hm hr hv hl hS
  unfold o_m2 at ho
  split at ho
  · obtain ⟨hlen, ho⟩ := ho
    obtain ⟨vs, rfl, hv1⟩ := hv.int'
    obtain ⟨vs, rfl, hv2⟩ := hv1.int'
    exact va_mmin C.1 C.2.1 (by rw [C.2.2.1]; exact hl.1.symm) C.2.2.2.1 (C.2.2.2.2.1 _ hw) (C.2.2.2.2.1 _ hw2) (C.2.2.2.2.1 _ hw3) (C.2.2.2.2.1 _ hw4) (by have := C.2.2.2.2.2.2.2.1; omega) (by have := roomM C hv2 hlen; omega) z1 z2 hd (hk _ _ _ _ _ ho z1 z2 Rl H locs lsC _ hm hr ⟨rfl, hv2⟩ hl hS)
  · exact ho.elim
theorem s_mabs (C : CX p R s m args c D base nL cc own d) {idx : Nat} (hw : Cond.methodLink own idx Lib.Math.abs.name ∈ TB) (hw2 : Cond.static Lib.Math.abs.name ∈ TB) (hw3 : Cond.initialized "java/lang/Math" ∈ TB) (hw4 : Cond.code Lib.Math.abs.name Lib.Math.abs.code 1 (some .int) ∈ TB) (hd : decode cc pc = .ok (.invokestatic idx, 3)) (hk : Sd p l e R s m args below meth c Q D base nL Rl0 (pc + 3) K) : Sd p l e R s m args below meth c Q D base nL Rl0 pc (o_m1 (fun x => if 0 ≤ x then x else 0 - x) K) := by
  intro ls st h n1 n2 ho z1 z2 Rl H locs lsC stC hm hr hv hl hS
  unfold o_m1 at ho
  split at ho
  · obtain ⟨hlen, ho⟩ := ho
    obtain ⟨vs, rfl, hv1⟩ := hv.int'
    exact va_mabs C.1 C.2.1 (by rw [C.2.2.1]; exact hl.1.symm) C.2.2.2.1 (C.2.2.2.2.1 _ hw) (C.2.2.2.2.1 _ hw2) (C.2.2.2.2.1 _ hw3) (C.2.2.2.2.1 _ hw4) (by have := C.2.2.2.2.2.2.2.1; omega) (by have := roomM C hv1 hlen; omega) z1 z2 hd (hk _ _ _ _ _ ho z1 z2 Rl H locs lsC _ hm hr ⟨rfl, hv1⟩ hl hS)
  · exact ho.elim
theorem s_mminl (C : CX p R s m args c D base nL cc own d) {idx : Nat} (hw : Cond.methodLink own idx Lib.MathLoose.min_long.x ∈ TB) (hw2 : Cond.static Lib.MathLoose.min_long.x ∈ TB) (hw3 : Cond.initialized "java/lang/Math" ∈ TB) (hw4 : Cond.code Lib.MathLoose.min_long.x Lib.MathLoose.min_long.code 4 (some .long) ∈ TB) (hd : decode cc pc = .ok (.invokestatic idx, 3)) (hk : Sd p l e R s m args below meth c Q D base nL Rl0 (pc + 3) K) : Sd p l e R s m args below meth c Q D base nL Rl0 pc (o_ml (fun x y => if y < x then y else x) K) := by
  intro ls st h n1 n2 ho z1 z2 Rl H locs lsC stC hm hr hv hl hS
  unfold o_ml at ho
  split at ho
  · obtain ⟨hlen, ho⟩ := ho
    obtain ⟨vs, rfl, hv1⟩ := hv.long'
    obtain ⟨vs, rfl, hv2⟩ := hv1.long'
    exact va_mmin_long C.1 C.2.1 (by rw [C.2.2.1]; exact hl.1.symm) C.2.2.2.1 (C.2.2.2.2.1 _ hw) (C.2.2.2.2.1 _ hw2) (C.2.2.2.2.1 _ hw3) (C.2.2.2.2.1 _ hw4) (by have := C.2.2.2.2.2.2.2.1; omega) (roomM C hv2 hlen) z1 z2 hd (hk _ _ _ _ _ ho z1 z2 Rl H locs lsC _ hm hr ⟨rfl, hv2⟩ hl hS)
  · exact ho.elim
end ZMORE
