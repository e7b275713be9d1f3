/-! Fields, arrays, new cells, calls and ends -/
section ZHEAP
variable {p : Program} {l : Launch} {e : Env} {R : Room} {s : State} {m : MethodId} {args : Array Value} {below : List Frame} {meth : Method} {c : Code} {Q : State → Prop} {D : DD} {base nL : Nat} {Rl0 : Nat → Nat → Prop} {cc : ByteArray} {own : String} {d pc : Nat} {K : KT}
theorem AL.obj {Rl : Nat → Nat → Prop} {h : HP} {k i a : Nat} {H : Heap} (hr : HR D Rl base s h H) (hi : Rl i a) (hal : AL h k i) (hk : k < 8) (hk2 : k ≠ 127 := by omega) : ∃ V : Nat → Value, t_OB a (D.1 k) (nf k) (D.2.1 k) H V ∧ (∀ x, x < nf k → VR Rl (mV h k x (ix i)) (V x)) ∧ base ≤ a := by
  obtain ⟨-, h2, h3⟩ := hr.2.2 i a hi
  rw [hal.1] at h2 h3
  unfold CRel at h3
  rw [if_pos hk] at h3
  obtain ⟨V, h4, h5⟩ := h3
  exact ⟨V, h4, h5, h2 hk2⟩
/-- what a class's table is, of kind k -/
def CT (k : Nat) (RX : String) (TX : u_T) (ty : Nat → FieldType) (N : Nat) : Prop := vwCl[k]? = some (RX, TX, N) ∧ (∀ w ∈ u_ws RX TX N, w ∈ TB) ∧ k < 8 ∧ nf k = N ∧ (∀ x, x < N → parseFieldDescriptor (TX x).2.2.1 = some (ty x)) ∧ (∀ a, a < N → ∀ b, b < N → a ≠ b → (TX a).2.1 ≠ (TX b).2.1) ∧ ∀ x, tyK k x = ty x
def o_gf (k i : Nat) (K : KT) : KT := fun ls st h n1 n2 => match st with
  | .ref a :: st' => AL h k a ∧ K ls (mV h k i (ix a) :: st') h n1 n2
  | _ => False
theorem s_getf (C : CX p R s m args c D base nL cc own d) {k i N idx : Nat} {RX : String} {TX : u_T} {ty : Nat → FieldType} (hT : CT k RX TX ty N) (hi : i < N) (hsm : (TX i).1 = RX) (hw : Cond.fieldLink own idx RX (TX i).2.1 (TX i).2.2.1 ∈ TB) (hd : decode cc pc = .ok (.getfield idx, 3)) (hk : Sd p l e R s m args below meth c Q D base nL Rl0 (pc + 3) K) : Sd p l e R s m args below meth c Q D base nL Rl0 pc (o_gf k i K) := by
  intro ls st h n1 n2 ho z1 z2 Rl H locs lsC stC hm hr hv hl hS
  unfold o_gf at ho
  split at ho
  · obtain ⟨hal, ho⟩ := ho
    obtain ⟨a, vs, rfl, ha, hv1⟩ := hv.ref'
    obtain ⟨hc, hin, hk8, hN, hty, -, -⟩ := hT
    obtain ⟨V, ⟨cell, q1, q2, q3, q4⟩, h5, -⟩ := hal.obj hr ha hk8
    obtain ⟨hS0, hfc, kC, hkC, hkind⟩ := C.2.2.2.2.2.1.1.1 k _ hc
    obtain ⟨cf, kf, fi, f, hif, hsl⟩ := hS0 i hi
    rw [hN] at q4 h5
    have hif' : s.fieldFound? RX (TX i).2.1 (TX i).2.2.1 = some (cf, kf, fi, f) := by rw [← hsm]; exact hif
    exact W.getf C.1 C.2.1 C.2.2.2.1 (C.2.2.2.2.1 _ hw) hif' (u_facts hfc hkC (u_lays C.2.2.2.2.1 hin hi) hif).1 q1 (by rw [q3]; exact fun h => by cases h) (v := V i) (by rw [hsl]; exact q4 i hi) rfl rfl hd (hk _ _ _ _ _ ho z1 z2 Rl H locs lsC _ hm hr ⟨h5 i hi, hv1⟩ hl hS)
  · exact ho.elim
/-- a field is written: the machine's row, for any kind of value -/
theorem put_core (C : CX p R s m args c D base nL cc own d) {k i N idx : Nat} {RX : String} {TX : u_T} {ty : Nat → FieldType} (hT : CT k RX TX ty N) (hi : i < N) (hsm : (TX i).1 = RX) (hw : Cond.fieldLink own idx RX (TX i).2.1 (TX i).2.2.1 ∈ TB) (hfin : (TX i).2.2.2 = false ∨ (meth.name = "<init>" ∧ RX = own)) (hd : decode cc pc = .ok (.putfield idx, 3))
    {Rl : Nat → Nat → Prop} {h h' : HP} {H : Heap} {locs : List Loc} {lsC : Array Slot} {vs : List Value} {id a : Nat} {vA vC : Value} {n1 n2 : Nat} (hr : HR D Rl base s h H) (ha : Rl id a) (hal : AL h k id) (hS : va_S (fun q => base ≤ q) s.heap H locs) (hv : VR Rl vA vC) (hn : narrow (ty i) vC = vC) (hf : fits (ty i) vC = true)
    (hA : ∀ k j, mA h' k j = mA h k j) (hs : ∀ x j, ¬ (x = k ∧ j = ix id) → mL h' x j = mL h x j ∧ ∀ y, mI h' x y j = mI h x y j ∧ mJ h' x y j = mJ h x y j ∧ mP h' x y j = mP h x y j)
    (h1 : mV h' k i (ix id) = vA) (h2 : ∀ x, x ≠ i → mV h' k x (ix id) = mV h k x (ix id))
    (kk : ∀ (H1 : Heap) (locs1 : List Loc), HR D Rl base s h' H1 → va_S (fun q => base ≤ q) s.heap H1 locs1 → W p l e R s m args below meth c H1 locs1 n1 n2 Q (F0 m (pc + 3) lsC vs)) :
    W p l e R s m args below meth c H locs n1 n2 Q (F0 m pc lsC (vC :: .ref a :: vs)) := by
  obtain ⟨hc, hin, hk8, hN, hty, hnm, -⟩ := hT
  obtain ⟨V, ⟨cell, q1, q2, q3, q4⟩, h5, hb⟩ := hal.obj hr ha hk8
  have hap := va_apart (own := own) (D := (D.1, D.2.1)) C.2.2.2.2.1 hin ty hty hnm C.2.2.2.2.2.1.1 hc
  obtain ⟨hS0, hfc, kC, hkC, hkind⟩ := C.2.2.2.2.2.1.1.1 k _ hc
  obtain ⟨cf, kf, fi, f, hif, hsl⟩ := hS0 i hi
  rw [hN] at q4 h5
  have hif' : s.fieldFound? RX (TX i).2.1 (TX i).2.2.1 = some (cf, kf, fi, f) := by rw [← hsm]; exact hif
  have hst := (u_facts hfc hkC (u_lays C.2.2.2.2.1 hin hi) hif).1
  have fin : ∀ (H' : Heap), H'[a]? = some (cell.setSlot f.slot vC) → H'.size = H.size → (∀ q, q ≠ a → H'[q]? = H[q]?) → W p l e R s m args below meth c H' (locs ++ [⟨a, f.slot⟩]) n1 n2 Q (F0 m (pc + 3) lsC vs) := by
    intro H' e1 e2 e3
    rw [hsl] at e1 ⊢
    refine kk H' _ (hr.wr ha e3 hA (fun x j hx => hs x j (by rw [hal.1] at hx; exact hx)) ?_) (hS.put e2 e3 hb)
    unfold CRel
    rw [hal.1, if_pos hk8]
    refine ⟨updV V i vC, ⟨_, e1, q2, q3, by rw [hN]; exact t_set q4 hap hi vC⟩, fun x hx => ?_⟩
    by_cases hxi : x = i
    · subst hxi
      rw [h1]
      simp only [updV, if_true]
      exact hv
    · rw [h2 x hxi]
      simp only [updV, if_neg hxi]
      exact h5 x (by rw [← hN]; exact hx)
  have hlay := C.2.2.2.2.1 _ (hin _ (u_in_lay hi))
  unfold u_lay at hlay
  by_cases hfl : (TX i).2.2.2 = true
  · rw [if_pos hfl] at hlay
    have hmn : meth.name = "<init>" ∧ RX = own := hfin.resolve_left (by rw [hfl]; decide)
    have hcf : m.cls = cf := by
      obtain ⟨_, _, c', _, _, _, -, -, hf', -, -, -, hown2, -⟩ := Cond.laysFinal_spec hlay
      have e1 : c' = cf := by have := hif.symm.trans hf'; simp at this; exact this.1.symm
      rw [hsm, hmn.2] at hown2
      rw [← e1]; exact Option.some.inj (C.2.2.2.1.symm.trans hown2)
    have h6 := u_fits hfc hkC hkind (Or.inr hlay) hif (hty i hi) hn hf
    exact W.putFinK C.1 C.2.1 C.2.2.2.1 (C.2.2.2.2.1 _ hw) hif' hst hcf hmn.1 (by rw [q2]; exact h6) q1 q3 (by rw [hsl]; exact k2_hasslot (q4 i hi)) rfl rfl hd fin
  · rw [if_neg hfl] at hlay
    have h6 := u_store hfc hkC hkind hlay hif (hty i hi) hn hf
    exact W.putK C.1 C.2.1 (f := f) ⟨C.2.2.2.1, C.2.2.2.2.1 _ hw, ⟨_, _, _, hif'⟩, hst⟩ (by rw [q2]; exact h6) q1 q3 (by rw [hsl]; exact k2_hasslot (q4 i hi)) rfl rfl hd fin
theorem wI_off {h : HP} {k i j : Nat} {x : Int32} : ∀ a c, ¬ (a = k ∧ c = j) → mL (wI h k i j x) a c = mL h a c ∧ ∀ y, mI (wI h k i j x) a y c = mI h a y c ∧ mJ (wI h k i j x) a y c = mJ h a y c ∧ mP (wI h k i j x) a y c = mP h a y c := fun a c hn => ⟨rfl, fun y => ⟨by rw [mI_wI, if_neg (fun q => hn ⟨q.1, q.2.2⟩)], rfl, rfl⟩⟩
theorem wJ_off {h : HP} {k i j : Nat} {x : Int64} : ∀ a c, ¬ (a = k ∧ c = j) → mL (wJ h k i j x) a c = mL h a c ∧ ∀ y, mI (wJ h k i j x) a y c = mI h a y c ∧ mJ (wJ h k i j x) a y c = mJ h a y c ∧ mP (wJ h k i j x) a y c = mP h a y c := fun a c hn => ⟨rfl, fun y => ⟨rfl, by rw [mJ_wJ, if_neg (fun q => hn ⟨q.1, q.2.2⟩)], rfl⟩⟩
theorem wP_off {h : HP} {k i j : Nat} {x : Option Nat} : ∀ a c, ¬ (a = k ∧ c = j) → mL (wP h k i j x) a c = mL h a c ∧ ∀ y, mI (wP h k i j x) a y c = mI h a y c ∧ mJ (wP h k i j x) a y c = mJ h a y c ∧ mP (wP h k i j x) a y c = mP h a y c := fun a c hn => ⟨rfl, fun y => ⟨rfl, rfl, by rw [mP_wP, if_neg (fun q => hn ⟨q.1, q.2.2⟩)]⟩⟩
theorem wI_oth {h : HP} {k i j : Nat} {x : Int32} : ∀ y, y ≠ i → mV (wI h k i j x) k y j = mV h k y j := fun y hy => mV_eq (by rw [mI_wI, if_neg (fun q => hy q.2.1)]) rfl rfl
theorem wJ_oth {h : HP} {k i j : Nat} {x : Int64} : ∀ y, y ≠ i → mV (wJ h k i j x) k y j = mV h k y j := fun y hy => mV_eq rfl (by rw [mJ_wJ, if_neg (fun q => hy q.2.1)]) rfl
theorem wP_oth {h : HP} {k i j : Nat} {x : Option Nat} : ∀ y, y ≠ i → mV (wP h k i j x) k y j = mV h k y j := fun y hy => mV_eq rfl rfl (by rw [mP_wP, if_neg (fun q => hy q.2.1)])
def o_pI (k i : Nat) (K : KT) : KT := fun ls st h n1 n2 => match st with
  | .int x :: .ref a :: st' => AL h k a ∧ K ls st' (wI h k i (ix a) x) n1 n2
  | _ => False
def o_pZ (k i : Nat) (K : KT) : KT := fun ls st h n1 n2 => match st with
  | .int x :: .ref a :: st' => (x = 0 ∨ x = 1) ∧ AL h k a ∧ K ls st' (wI h k i (ix a) x) n1 n2
  | _ => False
def o_pJ (k i : Nat) (K : KT) : KT := fun ls st h n1 n2 => match st with
  | .long x :: .ref a :: st' => AL h k a ∧ K ls st' (wJ h k i (ix a) x) n1 n2
  | _ => False
def o_pP (k i : Nat) (K : KT) : KT := fun ls st h n1 n2 => match st with
  | v :: .ref a :: st' => isR v ∧ AL h k a ∧ K ls st' (wP h k i (ix a) (orf v)) n1 n2
  | _ => False
theorem s_putI (C : CX p R s m args c D base nL cc own d) {k i N idx : Nat} {RX : String} {TX : u_T} {ty : Nat → FieldType} (hT : CT k RX TX ty N) (hi : i < N) (hsm : (TX i).1 = RX) (hw : Cond.fieldLink own idx RX (TX i).2.1 (TX i).2.2.1 ∈ TB) (hfin : (TX i).2.2.2 = false ∨ (meth.name = "<init>" ∧ RX = own)) (hty : ty i = .int) (hd : decode cc pc = .ok (.putfield idx, 3)) (hk : Sd p l e R s m args below meth c Q D base nL Rl0 (pc + 3) K) : Sd p l e R s m args below meth c Q D base nL Rl0 pc (o_pI k i K) := by
  intro ls st h n1 n2 ho z1 z2 Rl H locs lsC stC hm hr hv hl hS
  unfold o_pI at ho
  split at ho
  · rename_i x id st'
    obtain ⟨hal, ho⟩ := ho
    obtain ⟨vs, rfl, hv1⟩ := hv.int'
    obtain ⟨a, vs, rfl, ha, hv2⟩ := hv1.ref'
    refine put_core C hT hi hsm hw hfin hd (vA := .int x) (h' := wI h k i (ix id) x) hr ha hal hS rfl (by rw [hty]; rfl) (by rw [hty]; rfl) (fun _ _ => rfl) wI_off ?_ wI_oth (fun H1 locs1 g1 g2 => hk _ _ _ _ _ ho z1 z2 Rl H1 locs1 lsC _ hm g1 hv2 hl g2)
    unfold mV
    rw [hT.2.2.2.2.2.2 i, hty]
    simp only [mI_wI, and_self, if_true]
  · exact ho.elim
theorem s_putZ (C : CX p R s m args c D base nL cc own d) {k i N idx : Nat} {RX : String} {TX : u_T} {ty : Nat → FieldType} (hT : CT k RX TX ty N) (hi : i < N) (hsm : (TX i).1 = RX) (hw : Cond.fieldLink own idx RX (TX i).2.1 (TX i).2.2.1 ∈ TB) (hfin : (TX i).2.2.2 = false ∨ (meth.name = "<init>" ∧ RX = own)) (hty : ty i = .boolean) (hd : decode cc pc = .ok (.putfield idx, 3)) (hk : Sd p l e R s m args below meth c Q D base nL Rl0 (pc + 3) K) : Sd p l e R s m args below meth c Q D base nL Rl0 pc (o_pZ k i K) := by
  intro ls st h n1 n2 ho z1 z2 Rl H locs lsC stC hm hr hv hl hS
  unfold o_pZ at ho
  split at ho
  · rename_i x id st'
    obtain ⟨h01, hal, ho⟩ := ho
    obtain ⟨vs, rfl, hv1⟩ := hv.int'
    obtain ⟨a, vs, rfl, ha, hv2⟩ := hv1.ref'
    refine put_core C hT hi hsm hw hfin hd (vA := .int x) (h' := wI h k i (ix id) x) hr ha hal hS rfl (by rw [hty]; rcases h01 with rfl | rfl <;> rfl) (by rw [hty]; rcases h01 with rfl | rfl <;> rfl) (fun _ _ => rfl) wI_off ?_ wI_oth (fun H1 locs1 g1 g2 => hk _ _ _ _ _ ho z1 z2 Rl H1 locs1 lsC _ hm g1 hv2 hl g2)
    unfold mV
    rw [hT.2.2.2.2.2.2 i, hty]
    simp only [mI_wI, and_self, if_true]
  · exact ho.elim
theorem s_putJ (C : CX p R s m args c D base nL cc own d) {k i N idx : Nat} {RX : String} {TX : u_T} {ty : Nat → FieldType} (hT : CT k RX TX ty N) (hi : i < N) (hsm : (TX i).1 = RX) (hw : Cond.fieldLink own idx RX (TX i).2.1 (TX i).2.2.1 ∈ TB) (hfin : (TX i).2.2.2 = false ∨ (meth.name = "<init>" ∧ RX = own)) (hty : ty i = .long) (hd : decode cc pc = .ok (.putfield idx, 3)) (hk : Sd p l e R s m args below meth c Q D base nL Rl0 (pc + 3) K) : Sd p l e R s m args below meth c Q D base nL Rl0 pc (o_pJ k i K) := by
  intro ls st h n1 n2 ho z1 z2 Rl H locs lsC stC hm hr hv hl hS
  unfold o_pJ at ho
  split at ho
  · rename_i x id st'
    obtain ⟨hal, ho⟩ := ho
    obtain ⟨vs, rfl, hv1⟩ := hv.long'
    obtain ⟨a, vs, rfl, ha, hv2⟩ := hv1.ref'
    refine put_core C hT hi hsm hw hfin hd (vA := .long x) (h' := wJ h k i (ix id) x) hr ha hal hS rfl (by rw [hty]; rfl) (by rw [hty]; rfl) (fun _ _ => rfl) wJ_off ?_ wJ_oth (fun H1 locs1 g1 g2 => hk _ _ _ _ _ ho z1 z2 Rl H1 locs1 lsC _ hm g1 hv2 hl g2)
    unfold mV
    rw [hT.2.2.2.2.2.2 i, hty]
    simp only [mJ_wJ, and_self, if_true]
  · exact ho.elim
def isRT (t : FieldType) : Bool := match t with
  | .object _ => true
  | .array _ => true
  | _ => false
theorem s_putP (C : CX p R s m args c D base nL cc own d) {k i N idx : Nat} {RX : String} {TX : u_T} {ty : Nat → FieldType} (hT : CT k RX TX ty N) (hi : i < N) (hsm : (TX i).1 = RX) (hw : Cond.fieldLink own idx RX (TX i).2.1 (TX i).2.2.1 ∈ TB) (hfin : (TX i).2.2.2 = false ∨ (meth.name = "<init>" ∧ RX = own)) (hty : isRT (ty i) = true) (hd : decode cc pc = .ok (.putfield idx, 3)) (hk : Sd p l e R s m args below meth c Q D base nL Rl0 (pc + 3) K) : Sd p l e R s m args below meth c Q D base nL Rl0 pc (o_pP k i K) := by
  intro ls st h n1 n2 ho z1 z2 Rl H locs lsC stC hm hr hv hl hS
  unfold o_pP at ho
  split at ho
  · rename_i v id st'
    obtain ⟨hR, hal, ho⟩ := ho
    obtain ⟨vC, vs, rfl, h2, hv1⟩ := hv.cons'
    obtain ⟨a, vs, rfl, ha, hv2⟩ := hv1.ref'
    have hT7 := hT.2.2.2.2.2.2 i
    have hfn : narrow (ty i) vC = vC ∧ fits (ty i) vC = true := by
      rcases h2.isR hR with ⟨-, rfl⟩ | ⟨_, _, -, rfl, -⟩ <;> (cases hq : ty i <;> rw [hq] at hty <;> first | exact ⟨rfl, rfl⟩ | cases hty)
    refine put_core C hT hi hsm hw hfin hd (vA := v) (h' := wP h k i (ix id) (orf v)) hr ha hal hS h2 hfn.1 hfn.2 (fun _ _ => rfl) wP_off ?_ wP_oth (fun H1 locs1 g1 g2 => hk _ _ _ _ _ ho z1 z2 Rl H1 locs1 lsC _ hm g1 hv2 hl g2)
    unfold mV
    rw [hT7]
    cases hq : ty i <;> rw [hq] at hty <;> first | cases hty | skip
    all_goals
      simp only [mP_wP, and_self, if_true]
      cases v <;> first | rfl | exact hR.elim
  · exact ho.elim
/-! arrays -/
theorem AR.at {Rl : Nat → Nat → Prop} {h : HP} {i a : Nat} {H : Heap} (hr : HR D Rl base s h H) (hi : Rl i a) (hk : 8 ≤ kd i) (hk2 : kd i ≠ 127) : ∃ V : Nat → Value, H[a]? = some (arrV (D.2.2 (kd i)) (mL h (kd i) (ix i)) V) ∧ (∀ x, x < mL h (kd i) (ix i) → VR Rl (mV h (kd i) x (ix i)) (V x)) ∧ base ≤ a := by
  obtain ⟨-, h2, h3⟩ := hr.2.2 i a hi
  unfold CRel at h3
  rw [if_neg (by omega), if_neg hk2] at h3
  obtain ⟨V, h4, h5⟩ := h3
  exact ⟨V, h4, h5, h2 hk2⟩
theorem AR.scr {Rl : Nat → Nat → Prop} {h : HP} {i a : Nat} {H : Heap} (hr : HR D Rl base s h H) (hi : Rl i a) (hk2 : kd i = 127) : va_X a (mL h 127 (ix i)) (fun x => mI h 127 x (ix i)) s H := by
  obtain ⟨-, -, h3⟩ := hr.2.2 i a hi
  unfold CRel at h3
  rw [if_neg (by omega), if_pos hk2, hk2] at h3
  exact h3
theorem KK.arr {k : Nat} {t : FieldType} (hK : KK D s) (hk : 8 ≤ k) (ht : tyK k 0 = t) (n : Nat) (V : Nat → Value) : s.isArrayOf (arrV (D.2.2 k) n V) t := by
  have h1 := (hK.2.1 k hk).1 n V
  rw [ht] at h1
  exact h1
def o_iald (K : KT) : KT := fun ls st h n1 n2 => match st with
  | .int i :: .ref a :: st' => (8 ≤ kd a ∧ kd a < 80 ∨ kd a = 127) ∧ vp_in i (mL h (kd a) (ix a)) ∧ K ls (.int (mI h (kd a) i.toNatClampNeg (ix a)) :: st') h n1 n2
  | _ => False
def o_bald (K : KT) : KT := fun ls st h n1 n2 => match st with
  | .int i :: .ref a :: st' => (80 ≤ kd a ∧ kd a < 88) ∧ vp_in i (mL h (kd a) (ix a)) ∧ K ls (.int (mI h (kd a) i.toNatClampNeg (ix a)) :: st') h n1 n2
  | _ => False
def o_lald (K : KT) : KT := fun ls st h n1 n2 => match st with
  | .int i :: .ref a :: st' => (88 ≤ kd a ∧ kd a < 96) ∧ vp_in i (mL h (kd a) (ix a)) ∧ K ls (.long (mJ h (kd a) i.toNatClampNeg (ix a)) :: st') h n1 n2
  | _ => False
def o_aald (K : KT) : KT := fun ls st h n1 n2 => match st with
  | .int i :: .ref a :: st' => (kd a = 96 ∨ kd a = 97 ∨ kd a = 98) ∧ vp_in i (mL h (kd a) (ix a)) ∧ K ls (va_rf (mP h (kd a) i.toNatClampNeg (ix a)) :: st') h n1 n2
  | _ => False
theorem in_lt {i : Int32} {n : Nat} (h : vp_in i n) : i.toNatClampNeg < n := Nat.not_le.mp fun q => h (Or.inr q)
theorem s_iaload (C : CX p R s m args c D base nL cc own d) (hd : decode cc pc = .ok (.iaload, 1)) (hk : Sd p l e R s m args below meth c Q D base nL Rl0 (pc + 1) K) : Sd p l e R s m args below meth c Q D base nL Rl0 pc (o_iald K) := by
  intro ls st h n1 n2 ho z1 z2 Rl H locs lsC stC hm hr hv hl hS
  unfold o_iald at ho
  split at ho
  · rename_i i id st'
    obtain ⟨hkd, hin, ho⟩ := ho
    obtain ⟨vs, rfl, hv1⟩ := hv.int'
    obtain ⟨a, vs, rfl, ha, hv2⟩ := hv1.ref'
    by_cases h127 : kd id = 127
    · obtain ⟨scr, g1, g2, g3, g4, g5⟩ := AR.scr hr ha h127
      rw [h127] at hin
      rw [h127] at ho
      exact W.iald (v := .int (mI h 127 i.toNatClampNeg (ix id))) C.1 C.2.1 g1 g2 g3 (by rw [g4]; exact hin) (g5 _ (in_lt hin)) rfl rfl hd (hk _ _ _ _ _ ho z1 z2 Rl H locs lsC _ hm hr ⟨rfl, hv2⟩ hl hS)
    · have hk8 : 8 ≤ kd id ∧ kd id < 80 := hkd.resolve_right h127
      obtain ⟨V, g1, g2, -⟩ := AR.at hr ha hk8.1 h127
      have g3 := g2 _ (in_lt hin)
      rw [mV_i h _ _ hkd] at g3
      exact W.iald (v := V i.toNatClampNeg) C.1 C.2.1 g1 (C.2.2.2.2.2.1.arr hk8.1 (tyK_i 0 hkd) _ _) (fun q => by cases q) (by rw [arrV_size]; exact hin) (by rw [arrV_read _ _ (in_lt hin)]) rfl rfl hd (hk _ _ _ _ _ ho z1 z2 Rl H locs lsC _ hm hr ⟨g3, hv2⟩ hl hS)
  · exact ho.elim
theorem s_baload (C : CX p R s m args c D base nL cc own d) (hd : decode cc pc = .ok (.baload, 1)) (hk : Sd p l e R s m args below meth c Q D base nL Rl0 (pc + 1) K) : Sd p l e R s m args below meth c Q D base nL Rl0 pc (o_bald K) := by
  intro ls st h n1 n2 ho z1 z2 Rl H locs lsC stC hm hr hv hl hS
  unfold o_bald at ho
  split at ho
  · rename_i i id st'
    obtain ⟨hkd, hin, ho⟩ := ho
    obtain ⟨vs, rfl, hv1⟩ := hv.int'
    obtain ⟨a, vs, rfl, ha, hv2⟩ := hv1.ref'
    obtain ⟨V, g1, g2, -⟩ := AR.at hr ha (by omega) (by omega)
    have g3 := g2 _ (in_lt hin)
    rw [mV_z h _ _ hkd] at g3
    exact W.zald (v := V i.toNatClampNeg) C.1 C.2.1 g1 (C.2.2.2.2.2.1.arr (by omega) (tyK_z 0 hkd) _ _) (fun q => by cases q) (by rw [arrV_size]; exact hin) (by rw [arrV_read _ _ (in_lt hin)]) rfl rfl hd (hk _ _ _ _ _ ho z1 z2 Rl H locs lsC _ hm hr ⟨g3, hv2⟩ hl hS)
  · exact ho.elim
theorem s_laload (C : CX p R s m args c D base nL cc own d) (hd : decode cc pc = .ok (.laload, 1)) (hk : Sd p l e R s m args below meth c Q D base nL Rl0 (pc + 1) K) : Sd p l e R s m args below meth c Q D base nL Rl0 pc (o_lald K) := by
  intro ls st h n1 n2 ho z1 z2 Rl H locs lsC stC hm hr hv hl hS
  unfold o_lald at ho
  split at ho
  · rename_i i id st'
    obtain ⟨hkd, hin, ho⟩ := ho
    obtain ⟨vs, rfl, hv1⟩ := hv.int'
    obtain ⟨a, vs, rfl, ha, hv2⟩ := hv1.ref'
    obtain ⟨V, g1, g2, -⟩ := AR.at hr ha (by omega) (by omega)
    have g3 := g2 _ (in_lt hin)
    rw [mV_l h _ _ hkd] at g3
    exact W.lald (v := V i.toNatClampNeg) C.1 C.2.1 g1 (C.2.2.2.2.2.1.arr (by omega) (tyK_l 0 hkd) _ _) (fun q => by cases q) (by rw [arrV_size]; exact hin) (by rw [arrV_read _ _ (in_lt hin)]) rfl rfl hd (hk _ _ _ _ _ ho z1 z2 Rl H locs lsC _ hm hr ⟨g3, hv2⟩ hl hS)
  · exact ho.elim
theorem s_aaload (C : CX p R s m args c D base nL cc own d) (hd : decode cc pc = .ok (.aaload, 1)) (hk : Sd p l e R s m args below meth c Q D base nL Rl0 (pc + 1) K) : Sd p l e R s m args below meth c Q D base nL Rl0 pc (o_aald K) := by
  intro ls st h n1 n2 ho z1 z2 Rl H locs lsC stC hm hr hv hl hS
  unfold o_aald at ho
  split at ho
  · rename_i i id st'
    obtain ⟨hkd, hin, ho⟩ := ho
    obtain ⟨vs, rfl, hv1⟩ := hv.int'
    obtain ⟨a, vs, rfl, ha, hv2⟩ := hv1.ref'
    obtain ⟨V, g1, g2, -⟩ := AR.at hr ha (by omega) (by omega)
    have g3 := g2 _ (in_lt hin)
    rw [mV_p h _ _ hkd] at g3
    have hty : tyK (kd id) 0 = .object RX5 ∨ tyK (kd id) 0 = .object RX3 ∨ tyK (kd id) 0 = .object RX1 := by
      rcases hkd with q | q | q <;> rw [q]
      · exact Or.inl rfl
      · exact Or.inr (Or.inl rfl)
      · exact Or.inr (Or.inr rfl)
    rcases hty with q | q | q <;>
    exact W.aald (v := V i.toNatClampNeg) C.1 C.2.1 g1 (C.2.2.2.2.2.1.arr (by omega) q _ _) rfl (fun q => by cases q) (by rw [arrV_size]; exact hin) (by rw [arrV_read _ _ (in_lt hin)]) rfl rfl hd (hk _ _ _ _ _ ho z1 z2 Rl H locs lsC _ hm hr ⟨g3, hv2⟩ hl hS)
  · exact ho.elim
def o_alen (K : KT) : KT := fun ls st h n1 n2 => match st with
  | .ref a :: st' => 8 ≤ kd a ∧ K ls (.int (Int32.ofNat (mL h (kd a) (ix a))) :: st') h n1 n2
  | _ => False
theorem s_alen (C : CX p R s m args c D base nL cc own d) (hd : decode cc pc = .ok (.arraylength, 1)) (hk : Sd p l e R s m args below meth c Q D base nL Rl0 (pc + 1) K) : Sd p l e R s m args below meth c Q D base nL Rl0 pc (o_alen K) := by
  intro ls st h n1 n2 ho z1 z2 Rl H locs lsC stC hm hr hv hl hS
  unfold o_alen at ho
  split at ho
  · rename_i id st'
    obtain ⟨hkd, ho⟩ := ho
    obtain ⟨a, vs, rfl, ha, hv1⟩ := hv.ref'
    by_cases h127 : kd id = 127
    · obtain ⟨scr, g1, g2, g3, g4, g5⟩ := AR.scr hr ha h127
      rw [h127] at ho
      exact W.alen (n := Int32.ofNat (mL h 127 (ix id))) C.1 C.2.1 g1 g2 (by rw [g4] <;> rfl) rfl rfl hd (hk _ _ _ _ _ ho z1 z2 Rl H locs lsC _ hm hr ⟨rfl, hv1⟩ hl hS)
    · obtain ⟨V, g1, g2, -⟩ := AR.at hr ha hkd h127
      exact W.alen (n := Int32.ofNat (mL h (kd id) (ix id))) C.1 C.2.1 g1 (C.2.2.2.2.2.1.arr hkd rfl _ _) (by rw [arrV_size] <;> rfl) rfl rfl hd (hk _ _ _ _ _ ho z1 z2 Rl H locs lsC _ hm hr ⟨rfl, hv1⟩ hl hS)
  · exact ho.elim
theorem ast_core {Rl : Nat → Nat → Prop} {h h' : HP} {H H1 : Heap} {id a j n1 n2 : Nat} {vA vC : Value} {V : Nat → Value} {locs : List Loc} (hr : HR D Rl base s h H) (ha : Rl id a) (hkd : 8 ≤ kd id) (h127 : kd id ≠ 127) (hS : va_S (fun q => base ≤ q) s.heap H locs) (hb : base ≤ a)
    (hV : ∀ x, x < mL h (kd id) (ix id) → VR Rl (mV h (kd id) x (ix id)) (V x)) (hv : VR Rl vA vC) (e1 : H1[a]? = some ((arrV (D.2.2 (kd id)) (mL h (kd id) (ix id)) V).setSlot j vC)) (e2 : H1.size = H.size) (e3 : ∀ q, q ≠ a → H1[q]? = H[q]?)
    (hA : ∀ k j, mA h' k j = mA h k j) (hs : ∀ x j, ¬ (x = kd id ∧ j = ix id) → mL h' x j = mL h x j ∧ ∀ y, mI h' x y j = mI h x y j ∧ mJ h' x y j = mJ h x y j ∧ mP h' x y j = mP h x y j) (hL : mL h' (kd id) (ix id) = mL h (kd id) (ix id))
    (h1 : mV h' (kd id) j (ix id) = vA) (h2 : ∀ x, x ≠ j → mV h' (kd id) x (ix id) = mV h (kd id) x (ix id)) : HR D Rl base s h' H1 ∧ va_S (fun q => base ≤ q) s.heap H1 (locs ++ [⟨a, j⟩]) := by
  refine ⟨hr.wr ha e3 hA hs ?_, hS.put e2 e3 hb⟩
  unfold CRel
  rw [if_neg (by omega), if_neg h127, hL]
  refine ⟨updV V j vC, by rw [e1, arrV_store], fun x hx => ?_⟩
  by_cases hxi : x = j
  · subst hxi
    rw [h1]
    simp only [updV, if_true]
    exact hv
  · rw [h2 x hxi]
    simp only [updV, if_neg hxi]
    exact hV x hx
def o_iast (K : KT) : KT := fun ls st h n1 n2 => match st with
  | .int x :: .int i :: .ref a :: st' => (8 ≤ kd a ∧ kd a < 80) ∧ vp_in i (mL h (kd a) (ix a)) ∧ K ls st' (wI h (kd a) i.toNatClampNeg (ix a) x) n1 n2
  | _ => False
def o_bast (K : KT) : KT := fun ls st h n1 n2 => match st with
  | .int x :: .int i :: .ref a :: st' => (x = 0 ∨ x = 1) ∧ (80 ≤ kd a ∧ kd a < 88) ∧ vp_in i (mL h (kd a) (ix a)) ∧ K ls st' (wI h (kd a) i.toNatClampNeg (ix a) x) n1 n2
  | _ => False
def o_last (K : KT) : KT := fun ls st h n1 n2 => match st with
  | .long x :: .int i :: .ref a :: st' => (88 ≤ kd a ∧ kd a < 96) ∧ vp_in i (mL h (kd a) (ix a)) ∧ K ls st' (wJ h (kd a) i.toNatClampNeg (ix a) x) n1 n2
  | _ => False
def o_aast (K : KT) : KT := fun ls st h n1 n2 => match st with
  | .ref b :: .int i :: .ref a :: st' => (kd a = 96 ∧ kd b = 5 ∨ kd a = 97 ∧ kd b = 3 ∨ kd a = 98 ∧ kd b = 1) ∧ vp_in i (mL h (kd a) (ix a)) ∧ K ls st' (wP h (kd a) i.toNatClampNeg (ix a) (some b)) n1 n2
  | _ => False
theorem s_iastore (C : CX p R s m args c D base nL cc own d) (hd : decode cc pc = .ok (.iastore, 1)) (hk : Sd p l e R s m args below meth c Q D base nL Rl0 (pc + 1) K) : Sd p l e R s m args below meth c Q D base nL Rl0 pc (o_iast K) := by
  intro ls st h n1 n2 ho z1 z2 Rl H locs lsC stC hm hr hv hl hS
  unfold o_iast at ho
  split at ho
  · rename_i x i id st'
    obtain ⟨hkd, hin, ho⟩ := ho
    obtain ⟨vs, rfl, hv1⟩ := hv.int'
    obtain ⟨vs, rfl, hv2⟩ := hv1.int'
    obtain ⟨a, vs, rfl, ha, hv3⟩ := hv2.ref'
    obtain ⟨V, g1, g2, hb⟩ := AR.at hr ha hkd.1 (by omega)
    refine W.iast C.1 C.2.1 g1 (C.2.2.2.2.2.1.arr hkd.1 (tyK_i 0 (Or.inl hkd)) _ _) (fun q => by cases q) (by rw [arrV_size]; exact hin) rfl rfl hd fun H1 e1 e2 e3 => ?_
    obtain ⟨g3, g4⟩ := ast_core (n1 := n1) (n2 := n2) (vA := .int x) (h' := wI h (kd id) i.toNatClampNeg (ix id) x) hr ha hkd.1 (by omega) hS hb g2 rfl e1 e2 e3 (fun _ _ => rfl) wI_off rfl (by rw [mV_i _ _ _ (Or.inl hkd)]; simp only [mI_wI, and_self, if_true]) wI_oth
    exact hk _ _ _ _ _ ho z1 z2 Rl H1 _ lsC _ hm g3 hv3 hl g4
  · exact ho.elim
theorem s_bastore (C : CX p R s m args c D base nL cc own d) (hd : decode cc pc = .ok (.bastore, 1)) (hk : Sd p l e R s m args below meth c Q D base nL Rl0 (pc + 1) K) : Sd p l e R s m args below meth c Q D base nL Rl0 pc (o_bast K) := by
  intro ls st h n1 n2 ho z1 z2 Rl H locs lsC stC hm hr hv hl hS
  unfold o_bast at ho
  split at ho
  · rename_i x i id st'
    obtain ⟨h01, hkd, hin, ho⟩ := ho
    obtain ⟨vs, rfl, hv1⟩ := hv.int'
    obtain ⟨vs, rfl, hv2⟩ := hv1.int'
    obtain ⟨a, vs, rfl, ha, hv3⟩ := hv2.ref'
    obtain ⟨V, g1, g2, hb⟩ := AR.at hr ha (by omega) (by omega)
    refine W.zast C.1 C.2.1 g1 (C.2.2.2.2.2.1.arr (by omega) (tyK_z 0 hkd) _ _) (fun q => by cases q) (by rw [arrV_size]; exact hin) rfl rfl hd fun H1 e1 e2 e3 => ?_
    have e1' : H1[a]? = some ((arrV (D.2.2 (kd id)) (mL h (kd id) (ix id)) V).setSlot i.toNatClampNeg (.int x)) := by
      rw [e1]
      rcases h01 with rfl | rfl <;> rfl
    obtain ⟨g3, g4⟩ := ast_core (n1 := n1) (n2 := n2) (vA := .int x) (h' := wI h (kd id) i.toNatClampNeg (ix id) x) hr ha (by omega) (by omega) hS hb g2 rfl e1' e2 e3 (fun _ _ => rfl) wI_off rfl (by rw [mV_z _ _ _ hkd]; simp only [mI_wI, and_self, if_true]) wI_oth
    exact hk _ _ _ _ _ ho z1 z2 Rl H1 _ lsC _ hm g3 hv3 hl g4
  · exact ho.elim
theorem s_lastore (C : CX p R s m args c D base nL cc own d) (hd : decode cc pc = .ok (.lastore, 1)) (hk : Sd p l e R s m args below meth c Q D base nL Rl0 (pc + 1) K) : Sd p l e R s m args below meth c Q D base nL Rl0 pc (o_last K) := by
  intro ls st h n1 n2 ho z1 z2 Rl H locs lsC stC hm hr hv hl hS
  unfold o_last at ho
  split at ho
  · rename_i x i id st'
    obtain ⟨hkd, hin, ho⟩ := ho
    obtain ⟨vs, rfl, hv1⟩ := hv.long'
    obtain ⟨vs, rfl, hv2⟩ := hv1.int'
    obtain ⟨a, vs, rfl, ha, hv3⟩ := hv2.ref'
    obtain ⟨V, g1, g2, hb⟩ := AR.at hr ha (by omega) (by omega)
    refine W.last C.1 C.2.1 g1 (C.2.2.2.2.2.1.arr (by omega) (tyK_l 0 hkd) _ _) (fun q => by cases q) (by rw [arrV_size]; exact hin) rfl rfl hd fun H1 e1 e2 e3 => ?_
    obtain ⟨g3, g4⟩ := ast_core (n1 := n1) (n2 := n2) (vA := .long x) (h' := wJ h (kd id) i.toNatClampNeg (ix id) x) hr ha (by omega) (by omega) hS hb g2 rfl e1 e2 e3 (fun _ _ => rfl) wJ_off rfl (by rw [mV_l _ _ _ hkd]; simp only [mJ_wJ, and_self, if_true]) wJ_oth
    exact hk _ _ _ _ _ ho z1 z2 Rl H1 _ lsC _ hm g3 hv3 hl g4
  · exact ho.elim
theorem aast_ok (C : CX p R s m args c D base nL cc own d) {Rl : Nat → Nat → Prop} {h : HP} {H : Heap} {ka kb b v : Nat} {RX : String} {TX : u_T} {N : Nat} (hr : HR D Rl base s h H) (hb : Rl b v) (hkb : kd b = kb) (hk8 : kb < 8) (hcl : vwCl[kb]? = some (RX, TX, N)) (hka : 8 ≤ ka) (hty : tyK ka 0 = .object RX) :
    ∃ (kA kC : Class) (comp : ClassId) (cv : Cell), s.vm.classes[D.2.2 ka]? = some kA ∧ kA.kind = .array comp (.object RX) ∧ s.vm.classes[comp]? = some kC ∧ H[v]? = some cv ∧ (∀ q, cv.vm ≠ .statics q) ∧ s.vm.classes[cv.cls]? = some kC ∧ s.vm.assignable cv.cls comp = true := by
  obtain ⟨hA, -, h3⟩ := hr.2.2 b v hb
  obtain ⟨V, ⟨cell, q1, q2, q3, -⟩, -, -⟩ := AL.obj hr hb (k := kb) ⟨hkb, by rw [← hkb]; exact hA⟩ hk8
  have hcls := (C.2.2.2.2.2.1.1.1 kb _ hcl).2
  have h5 := (C.2.2.2.2.2.1.2.1 ka hka).2
  rw [hty] at h5
  obtain ⟨kA, comp, k1, k2, k3, -⟩ := h5
  have hcomp : comp = D.1 kb := Option.some.inj (k3.symm.trans hcls.1)
  subst hcomp
  obtain ⟨kC, hkC, -⟩ := id hcls.2
  exact ⟨kA, kC, _, cell, k1, k2, hkC, q1, (fun q h => by rw [q3] at h; cases h), (by rw [q2]; exact hkC), (by rw [q2]; exact va_assign hcls)⟩
theorem s_aastore (C : CX p R s m args c D base nL cc own d) (hd : decode cc pc = .ok (.aastore, 1)) (hk : Sd p l e R s m args below meth c Q D base nL Rl0 (pc + 1) K) : Sd p l e R s m args below meth c Q D base nL Rl0 pc (o_aast K) := by
  intro ls st h n1 n2 ho z1 z2 Rl H locs lsC stC hm hr hv hl hS
  unfold o_aast at ho
  split at ho
  · rename_i b i id st'
    obtain ⟨hkd, hin, ho⟩ := ho
    obtain ⟨v, vs, rfl, hb, hv1⟩ := hv.ref'
    obtain ⟨vs, rfl, hv2⟩ := hv1.int'
    obtain ⟨a, vs, rfl, ha, hv3⟩ := hv2.ref'
    have hp : kd id = 96 ∨ kd id = 97 ∨ kd id = 98 := by omega
    obtain ⟨V, g1, g2, hba⟩ := AR.at hr ha (by omega) (by omega)
    have key : ∃ (RX : String) (kA kC : Class) (comp : ClassId) (cv : Cell), s.vm.classes[D.2.2 (kd id)]? = some kA ∧ kA.kind = .array comp (.object RX) ∧ s.vm.classes[comp]? = some kC ∧ H[v]? = some cv ∧ (∀ q, cv.vm ≠ .statics q) ∧ s.vm.classes[cv.cls]? = some kC ∧ s.vm.assignable cv.cls comp = true := by
      rcases hkd with ⟨e1, e2⟩ | ⟨e1, e2⟩ | ⟨e1, e2⟩
      · exact ⟨RX5, aast_ok C hr hb e2 (by omega) (RX := RX5) rfl (by omega) (by rw [e1]; rfl)⟩
      · exact ⟨RX3, aast_ok C hr hb e2 (by omega) (RX := RX3) rfl (by omega) (by rw [e1]; rfl)⟩
      · exact ⟨RX1, aast_ok C hr hb e2 (by omega) (RX := RX1) rfl (by omega) (by rw [e1]; rfl)⟩
    obtain ⟨RX, kA, kC, comp, cv, k1, k2, k3, k4, k5, k6, k7⟩ := key
    refine W.aast C.1 C.2.1 g1 (fun q h => by cases h) (fun h => by cases h) k1 k2 rfl k3 ⟨fun q => hin (Or.inl q), by rw [arrV_size]; exact in_lt hin⟩ k4 k5 k6 k7 rfl rfl hd fun H1 e1 e2 e3 => ?_
    obtain ⟨g3, g4⟩ := ast_core (n1 := n1) (n2 := n2) (vA := .ref b) (vC := .ref v) (h' := wP h (kd id) i.toNatClampNeg (ix id) (some b)) hr ha (by omega) (by omega) hS hba g2 ⟨v, rfl, hb⟩ e1 e2 e3 (fun _ _ => rfl) wP_off rfl (by rw [mV_p _ _ _ hp]; simp only [mP_wP, and_self, if_true]; rfl) wP_oth
    exact hk _ _ _ _ _ ho z1 z2 Rl H1 _ lsC _ hm g3 hv3 hl g4
  · exact ho.elim
end ZHEAP
