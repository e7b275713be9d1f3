/-! X6_cell, that may throw, and L_cell, that catches -/
def thT : String := "no such tape, place or row"
def XTh (base sa : Nat) (U : State) : Prop := vx_Zq Bundle.tN "UNASSIGNED_STACK" Bundle.steD (fun q => base ≤ q) U U.heap ∧ vx_Zq Bundle.tN "SUPPRESSED_SENTINEL" Bundle.listD (fun q => base ≤ q) U U.heap ∧ (∀ w ∈ thN, va_Nw w U) ∧ vk_R RX6 184 thT sa U
theorem XTh.go {base sa : Nat} {s U : State} (hW : s.WarmedH U.vm) (hH : ∀ a : Nat, a < s.heap.size → ¬ base ≤ a → U.heap[a]? = s.heap[a]?) (h : XTh base sa s) : XTh base sa U := by
  obtain ⟨h1, h2, h3, h4⟩ := h
  refine ⟨vx_Zq.moved hW.alike (h1.kept hH), vx_Zq.moved hW.alike (h2.kept hH), fun w hw => ?_, vk_R.warm hW h4⟩
  have h5 := h3 w hw
  simp only [thN, List.mem_cons, List.not_mem_nil, or_false] at hw
  rcases hw with rfl | rfl | rfl | rfl
  · exact va_Nw.warmC hW h5
  · exact va_Nw.warmD hW h5
  · exact va_Nw.warmD hW h5
  · exact va_Nw.warmD hW h5
theorem thN_tab : ∀ w ∈ thN, w.onTables = true := by decide +kernel
theorem w_c1 : Cond.classLink RX6 182 NSE ∈ TB := List.mem_filter.mpr ⟨by decide +kernel, by decide +kernel⟩
theorem w_c2 : Cond.initialized NSE ∈ TB := List.mem_filter.mpr ⟨by decide +kernel, by decide +kernel⟩
theorem w_c3 : Cond.methodLink RX6 179 yX5_hasNumber ∈ TB := List.mem_filter.mpr ⟨by decide +kernel, by decide +kernel⟩
theorem w_c4 : Cond.instanceMethod yX5_hasNumber ∈ TB := List.mem_filter.mpr ⟨by decide +kernel, by decide +kernel⟩
theorem w_c5 : Cond.selects RX5 yX5_hasNumber yX5_hasNumber ∈ TB := List.mem_filter.mpr ⟨by decide +kernel, by decide +kernel⟩
theorem w_c6 : Cond.classLink RL 13 NSE ∈ TB := List.mem_filter.mpr ⟨by decide +kernel, by decide +kernel⟩
theorem w_c7 : Cond.methodLink RL 7 yX6_cell ∈ TB := List.mem_filter.mpr ⟨by decide +kernel, by decide +kernel⟩
theorem w_c8 : Cond.instanceMethod yX6_cell ∈ TB := List.mem_filter.mpr ⟨by decide +kernel, by decide +kernel⟩
theorem w_c9 : Cond.selects RX6 yX6_cell yX6_cell ∈ TB := List.mem_filter.mpr ⟨by decide +kernel, by decide +kernel⟩
theorem w_c10 : Cond.code yX6_cell cX6_cell 4 (some .long) ∈ TB := List.mem_filter.mpr ⟨by decide +kernel, by decide +kernel⟩
theorem w_c11 : Cond.codeWith yL_cell cL_cell 5 (some .int) [(0, 9, 12, 13)] ∈ TB := List.mem_filter.mpr ⟨by decide +kernel, by decide +kernel⟩
theorem dL_cell_0 : decode cL_cell 0 = .ok (.aload_n 3, 1) := by decide +kernel
theorem dL_cell_1 : decode cL_cell 1 = .ok (.iconst 0, 1) := by decide +kernel
theorem dL_cell_2 : decode cL_cell 2 = .ok (.aload_n 0, 1) := by decide +kernel
theorem dL_cell_3 : decode cL_cell 3 = .ok (.iload_n 1, 1) := by decide +kernel
theorem dL_cell_4 : decode cL_cell 4 = .ok (.iload_n 2, 1) := by decide +kernel
theorem dL_cell_5 : decode cL_cell 5 = .ok (.invokevirtual 7, 3) := by decide +kernel
theorem dL_cell_8 : decode cL_cell 8 = .ok (.lastore, 1) := by decide +kernel
theorem dL_cell_9 : decode cL_cell 9 = .ok (.goto 7, 3) := by decide +kernel
theorem dL_cell_12 : decode cL_cell 12 = .ok (.astore 4, 2) := by decide +kernel
theorem dL_cell_14 : decode cL_cell 14 = .ok (.iconst 1, 1) := by decide +kernel
theorem dL_cell_15 : decode cL_cell 15 = .ok (.ireturn, 1) := by decide +kernel
theorem dL_cell_16 : decode cL_cell 16 = .ok (.iconst 0, 1) := by decide +kernel
theorem dL_cell_17 : decode cL_cell 17 = .ok (.ireturn, 1) := by decide +kernel
section ZTHROW
variable {p : Program} {l : Launch} {e : Env} {R : Room} {s : State} {m : MethodId} {args : Array Value} {below : List Frame} {meth : Method} {c : Code} {H : Heap} {locs : List Loc} {cells slots : Nat}
set_option maxHeartbeats 1000000 in
theorem th_throw (hexec : p.tables.exec = Jvm.exec) (hb : c.code = cX6_cell) (hl : l.stackTraces = false) {mc ms base sa : Nat} {free : Addr → Prop} {Qc : Array Value → State → Outcome → State → Prop} {XC : String → State → State → Prop} {ls : Array Slot} {rest : List Value}
    (hown : s.vm.findClass RX6 = some m.cls) (hTB : ∀ w ∈ TB, w.before args s = true) (hX : XTh base sa s) (hS : va_S (fun q => base ≤ q) s.heap H locs) (hsize : ls.size = c.maxLocals)
    (hout : ∀ x ∈ c.exceptionTable.toList, False) (hRframes : 5 < R.frames) (hRlocals : (rest.map fun v => v.category).sum + 82 ≤ R.locals) (hRcells : cells + 1 ≤ R.cells) (hRslots : slots + 6 ≤ R.slots) (hlocks : meth.locks = false)
    (hx : ∀ t : State, s.vm.Alike t.vm → H.size ≤ t.heap.size → (∀ q : Nat, q < H.size → t.heap[q]? = H[q]?) → XC NSE s t)
    (hf : ∀ z ∈ locs, free z.base) (hc : cells + 1 ≤ mc) (hs : slots + 6 ≤ ms) :
    W p l e R s m args below meth c H locs cells slots (vx_MQ below Qc XC args s mc ms free) (F0 m 18 ls rest) := by
  intro T hT X
  have htr : e.platform.stackTraces = false := (show e.platform.stackTraces = l.stackTraces by rw [X.admits.platform]).trans hl
  have Y := vx_rebase X (R' := { frames := R.frames, locals := R.locals, cells := 1, slots := 6 }) (Nat.le_refl _) (Nat.le_refl _) hRcells hRslots
  obtain ⟨s', hA⟩ : ∃ z, z = (T.setVm s.vm).setFrames (.invoking m args :: below) := ⟨_, rfl⟩
  rw [← hA] at Y
  have hvm : s'.vm = s.vm := by rw [hA]; rfl
  have hhp : s'.heap = H := by rw [hA]; exact hT
  have hW0 : s.WarmedH s'.vm := by rw [hvm]; exact State.WarmedH.refl s
  have gd : ∀ w ∈ TB, w.before args s' = true := fun w hw => word_at hW0 (good_of_word (List.mem_filter.mp hw).2) (hTB w hw)
  obtain ⟨hU', hN', hw3, hstr'⟩ : XTh base sa s' := hX.go hW0 (by rw [hhp]; exact hS.2.1)
  have h : ∀ w ∈ thA, w.before args s' = true := vx_own (fun w hw => by
    obtain ⟨h1, h2⟩ := List.mem_filter.mp hw
    rcases thA_in w h1 with q | q | q
    · exact (hw3 w q).use (thN_tab w q)
    · rw [h2] at q; cases q
    · exact gd w (List.mem_filter.mpr q)) (vx_isRefq hU'.1) (vx_isRefq hN'.1) hU'.2.word hN'.2.word
  have hown' : s'.vm.findClass RX6 = some m.cls := by rw [hvm]; exact hown
  have hins : (Cond.instantiable NSE 6).before args s' = true := h _ (by simp [thA, th_at])
  obtain ⟨vm₁, cX, kX, hfX, hkX, -, -, X₁, st1⟩ := Y.newCold hexec (own := RX6) (C := NSE) (index := 182) (n := 6) hown' (gd _ w_c1) hins (gd _ w_c2)
    (g := F0 m 18 ls rest) rfl (by rw [hb]; exact dX6_cell_18) (Nat.le_refl _) (Nat.le_refl _)
  generalize hT1 : (T.setVm vm₁).pushCell { cls := cX, slots := kX.instanceTypes.map defaultValue, vm := .none } = T1 at X₁ st1
  have hcat : (Value.ref T.heap.size).category = 1 := rfl
  have hcellA : T1.heap[T.heap.size]? = some (freshCell cX kX) := by rw [← hT1]; exact State.heap_pushCell_size _ _
  have d3' : decode c.code (18 + 3) = .ok (.dup, 1) := by rw [hb]; exact dX6_cell_21
  have d4' : decode c.code (18 + 4) = .ok (.ldc 184, 2) := by rw [hb]; exact dX6_cell_22
  obtain ⟨U, hsteps, hrun, hend, hW, hsame, ce, hce, hcl, hcv⟩ := th_ctor X₁ hexec htr (own := RX6) (cls := NSE) (Y := "java/lang/RuntimeException") (r := ["java/lang/Exception"]) (ic := 186) dNSE_0 dNSE_1 dNSE_2 dNSE_5 hown' (by decide) (by decide) h (fun x hx => nomatch hx) hfX hkX hcellA (by rw [hhp, hT]; exact Nat.le_refl _) (msg := .ref sa) rfl
    (g := { method := m, pc := 18 + 6, locals := ls, stack := .ref sa :: .ref T.heap.size :: .ref T.heap.size :: rest, locked := none }) rfl hsize rfl rfl (rest := rest) rfl
    (by rw [hb]; exact dX6_cell_24) (by rw [hb]; exact dX6_cell_27) (fun x hx => (hout x hx).elim) hRframes (by simp only [List.map_cons, List.sum_cons, hcat, List.length_cons, List.length_nil, JFrame.monitorRoom]; omega) hlocks
  obtain ⟨f1, f2⟩ := vx_frame hsame
  rw [hhp] at f1 f2
  have hWs : s.WarmedH U.vm := State.WarmedH.trans hW0 hW
  have hcl' : s.vm.findClass NSE = some ce.cls := by
    rw [hvm] at hcl
    exact hcl
  have hall : s.sameButNew ({ U with vm := s.vm } : State) locs mc ms := by
    subst hA
    obtain ⟨e1, e2⟩ := hsame
    rw [State.setFrames_setFrames] at e1
    have h2 : (T.setVm s.vm).sameButNew ({ U with vm := s.vm } : State) [] (0 + 1) (0 + 6) := ⟨e1, e2⟩
    have h3 := X.same.trans h2
    rw [List.append_nil] at h3
    exact h3.mono hc hs
  refine ⟨U, ?_, .threw T.heap.size, hrun, hend, Or.inr ⟨T.heap.size, rfl, NSE, ce, locs, hx U hWs.alike f1 (fun q hq => f2 q hq (fun z hz => nomatch hz)), hce, hcv, hcl', hWs, hall, hf⟩⟩
  refine st1 _ ?_
  show Steps p.tables e below (T1.setTop { method := m, pc := 18 + 3, locals := ls, stack := .ref T.heap.size :: rest, locked := none }) _
  jvm_step X₁.here [X₁.here.top, hexec, d3', Value.category]
  exact X₁.ldcString hexec (own := RX6) (text := thT) (index := 184) (a := sa) hown' hstr'.1 hstr'.2
    (g := { method := m, pc := 18 + 4, locals := ls, stack := .ref T.heap.size :: .ref T.heap.size :: rest, locked := none }) rfl d4' _ hsteps
end ZTHROW
theorem HR.more {D : DD} {Rl : Nat → Nat → Prop} {base : Nat} {s t : State} {h : HP} {H H1 : Heap} (hr : HR D Rl base s h H) (hvm : s.vm.Alike t.vm) (hk : ∀ q : Nat, q < H.size → H1[q]? = H[q]?) : HR D Rl base t h H1 :=
  ⟨hr.1, hr.2.1, fun i a q => ⟨(hr.2.2 i a q).1, (hr.2.2 i a q).2.1, (hr.2.2 i a q).2.2.kept hvm (fun _ _ z => z) (hk a (hr.2.2 i a q).2.2.lt) rfl (fun _ => rfl) (fun _ => rfl) (fun _ => rfl)⟩⟩
theorem LL.stJ {Rl : Nat → Nat → Prop} {ls : List Value} {lsC ls' : Array Slot} {nL i : Nat} {v' : Value} (h : LL Rl ls lsC nL)
    (h' : lv_has ls' nL ((i, v') :: (allL lsC nL).filter (fun q => !(q.1 == i) && !(q.1 + 1 == i && q.2.category == 2)))) : LL Rl (lset ls i jk) ls' nL := by
  refine ⟨h'.1, h'.2.1, fun k w hk hj => ?_⟩
  rcases lset_get hk hj with ⟨rfl, rfl⟩ | ⟨h1, h2, h3⟩
  · cases hj
  · obtain ⟨w', h4, h5⟩ := h.2.2 k w h2 hj
    refine ⟨w', h'.2.2 (k, w') (List.mem_cons_of_mem _ (List.mem_filter.mpr ⟨allL_mem.mpr ⟨h.lt h4, h4⟩, ?_⟩)), h5⟩
    have h6 := h5.cat
    by_cases hki : k + 1 = i
    · have := h3 hki
      rw [this] at h6
      simp [h1, h6]
    · simp [h1, hki]
section ZCELL
variable {l : Launch} {D : DD} {d : Nat} {as lsA : List Value} {h : HP} {Qp : List Value → HP → Prop} {Qx : HP → Prop} {base sa MC MS : Nat}
/-- a body's entry, seen from here -/
theorem ent_W {p : Program} {e : Env} {s : State} {m : MethodId} {args : Array Value} {below : List Frame} {meth : Method} {c : Code} {s₁ : State} {y : MethodName} {ws : List Cond} {cb : ByteArray} {mx : Nat} {ret : Option FieldType} {Rl : Nat → Nat → Prop} {asC : List Value} {Q : State → Prop}
    (B : BodyLoose p l y (headSpec ws (rmk (d + 1) MC MS)) cb mx ret e s m args below meth c s₁) (hTB : ∀ w ∈ TB, w ∈ ws) (hml : c.maxLocals = mx) (hP : PcR D base Rl asC h args s) (hv : VL Rl as asC)
    (hent : lay as ++ List.replicate (mx - (lay as).length) jk = lsA) (hle : (lay as).length ≤ mx)
    (k : CX p (rmk (d + 1) MC MS) s m args c D base mx cb y.cls d → Wm p l e (rmk (d + 1) MC MS) s m args below meth c Q D base mx Rl 0 lsA [] h 0 0) :
    W p l e (rmk (d + 1) MC MS) s m args below meth c s.heap [] 0 0 Q (entryFrame m args mx) := by
  obtain ⟨rfl, hb, hK, hr⟩ := hP
  have hts := atoms_spec (ws := ws) B.pre
  have hown : s.vm.findClass y.cls = some m.cls := findClass_of_methodNamed B.named
  have hlen := lay_len hv
  have hl := lv_entry asC (n := mx) (by omega)
  rw [lg_entry_eq]
  generalize (lg_sl asC ++ List.replicate (mx - (lg_sl asC).length) Slot.unset).toArray = ls at hl ⊢
  refine k ⟨B.exec, B.bytes, hml, hown, fun w hw => hts w (hTB w hw), hK, hb, Nat.le_refl _, ?_⟩ (Nat.zero_le _) (Nat.zero_le _) Rl s.heap [] ls [] (fun _ _ q => q) hr trivial ⟨hl.1, hl.2.1, fun i v hi hj => ?_⟩ va_S.rf
  · show 40 * d + 40 ≤ 40 * (d + 1)
    omega
  · rw [← hent] at hi
    by_cases hil : i < (lay as).length
    · rw [List.getElem?_append_left hil] at hi
      obtain ⟨v', g1, g2⟩ := lay_at hv 0 i v hi hj
      rw [Nat.zero_add] at g1
      exact ⟨v', hl.2.2 _ g1, g2⟩
    · rw [List.getElem?_append_right (by omega), List.getElem?_replicate] at hi
      split at hi
      · cases hi
        cases hj
      · cases hi
def xcR (D : DD) (base : Nat) (Rl : Nat → Nat → Prop) (Qx : HP → Prop) : String → State → State → Prop := fun E st t => E = NSE ∧ (∃ (Rl' : Nat → Nat → Prop) (h' : HP), (∀ i a, Rl i a → Rl' i a) ∧ HR D Rl' base t h' t.heap ∧ Qx h') ∧ va_F (fun q => base ≤ q) st t
def Px (D : DD) (base sa : Nat) (Rl : Nat → Nat → Prop) (asC : List Value) (h : HP) : Array Value → State → Prop := fun a U => PcR D base Rl asC h a U ∧ XTh base sa U
theorem Px.blind {Rl : Nat → Nat → Prop} {asC : List Value} : FrameBlind (Px D base sa Rl asC h) := by
  rintro a U g mk ⟨h1, h2⟩
  exact ⟨PcR.blind a U g mk h1, XTh.go (s := U) (U := U.calling g mk a) (State.WarmedH.refl U) (fun _ _ _ => rfl) h2⟩
theorem pre_x {p : Program} {R : Room} {s : State} {m : MethodId} {args : Array Value} {c : Code} {nL : Nat} {cc : ByteArray} {own : String} (C : CX p R s m args c D base nL cc own d) (hX : XTh base sa s) {Rl : Nat → Nat → Prop} {H : Heap} {asC : List Value} {locs : List Loc} (hr : HR D Rl base s h H) (hS : va_S (fun q => base ≤ q) s.heap H locs) : PreS s H (Px D base sa Rl asC h) asC :=
  ⟨Px.blind, fun U hU hW => ⟨(pre_of C hr hS).2 U hU hW, hX.go hW (by rw [hU]; exact hS.2.1)⟩⟩
/-- X6_cell's contract: it returns with Qp or throws with Qx -/
def Ct (l : Launch) (D : DD) (d base sa : Nat) (as : List Value) (h : HP) (Qp : List Value → HP → Prop) (Qx : HP → Prop) : Prop :=
  ∀ (Rl : Nat → Nat → Prop) (asC : List Value), VL Rl as asC → vx_Met l yX6_cell (wsm yX6_cell cX6_cell 4 (some .long)) (rmk d 1 6) (Px D base sa Rl asC h) (QcR D base Rl Qp) (xcR D base Rl Qx) 1 6 (fun q => base ≤ q)
def o_thr (Qx : HP → Prop) : KT := fun _ st h n1 n2 => st = [] ∧ n1 = 0 ∧ n2 = 0 ∧ Qx h
def B_X6_cell_0 (l : Launch) (D : DD) (d : Nat) (Qp : List Value → HP → Prop) (X : Nat → KT) : KT := (o_al 0 (o_il 1 (o_invV 1 6 0 0 6 (Cn l D d yX6_tapeAt cX6_tapeAt 2 (some (FieldType.object "TapeHall$Tape")) 0 0) 1 (o_as 3 (o_al 3 (o_ifn (X 18) (o_al 3 (o_il 2 (o_invV 1 6 0 0 5 (Cn l D d yX5_hasNumber cX5_hasNumber 2 (some FieldType.boolean) 0 0) 1 (o_if (fun x => x = 0) (X 18) (X 28)))))))))))
def B_X6_cell_28 (l : Launch) (D : DD) (d : Nat) (Qp : List Value → HP → Prop) (X : Nat → KT) : KT := (o_al 3 (o_il 2 (o_invV 1 6 0 0 5 (Cn l D d yX5_number cX5_number 2 (some FieldType.long) 0 0) 1 (o_lret Qp))))
set_option maxRecDepth 20000 in
set_option maxHeartbeats 4000000 in
theorem m_X6_cell (hst : l.stackTraces = false) (hd : 5 ≤ d) (hent : lay as ++ List.replicate (4 - (lay as).length) jk = lsA) (hle : (lay as).length ≤ 4) (H : ∀ X : Nat → KT, (∀ ls st h n1 n2, B_X6_cell_0 l D d Qp X ls st h n1 n2 → X 0 ls st h n1 n2) → (∀ ls st h n1 n2, o_thr Qx ls st h n1 n2 → X 18 ls st h n1 n2) → (∀ ls st h n1 n2, B_X6_cell_28 l D d Qp X ls st h n1 n2 → X 28 ls st h n1 n2) → X 0 lsA [] h 0 0) : Ct l D (d + 1) base sa as h Qp Qx := by
  intro Rl asC hv
  refine vx_ofW (cc := cX6_cell) (maxL := 4) (ret := some .long) rfl rfl ?_
  intro p e s m args below meth c s₁ B hml hout hP
  have hl0 : meth.locks = false := B.notSynchronized
  refine ent_W B (fun w hw => List.mem_cons_of_mem _ hw) hml hP.1 hv hent hle fun C => ?_
  refine H (Wm p l e (rmk (d + 1) 1 6) s m args below meth c (vx_MQ below (QcR D base Rl Qp) (xcR D base Rl Qx) args s 1 6 (fun q => base ≤ q)) D base 4 Rl) ?_ ?_ ?_
  · exact (show Sd _ _ _ _ _ _ _ _ _ _ _ _ _ _ _ 0 _ from (s_aload_n (pc := 0) C dX6_cell_0 rfl (s_iload_n (pc := 1) C dX6_cell_1 rfl (s_invV (pc := 2) C rfl rfl ct_6 rfl ci_X6_tapeAt wd_374 wd_376 wd_2 dX6_cell_2 (s_astore_n (pc := 5) C dX6_cell_5 rfl (by decide) (s_aload_n (pc := 6) C dX6_cell_6 rfl (s_ifnull (tgt := 18) (pc := 7) C dX6_cell_7 (by decide) sid (s_aload_n (pc := 10) C dX6_cell_10 rfl (s_iload_n (pc := 11) C dX6_cell_11 rfl (s_invV (pc := 12) C rfl rfl ct_5 rfl ci_X5_hasNumber w_c3 w_c4 w_c5 dX6_cell_12 (s_if_ne (tgt := 28) (pc := 15) C dX6_cell_15 (by decide) sid sid)))))))))))
  · intro ls st h n1 n2 ⟨e1, e2, e3, ho⟩ z1 z2 Rl1 H1 locs lsC stC hm hr hv1 hl1 hS
    subst e1; subst e2; subst e3
    rw [hv1.nil']
    exact th_throw C.1 C.2.1 hst C.2.2.2.1 C.2.2.2.2.1 hP.2 hS (hl1.1.trans C.2.2.1.symm) hout (by show 5 < d + 1; omega) (by show 0 + 82 ≤ 40 * (d + 1); omega) (Nat.le_refl _) (Nat.le_refl _) hl0
      (fun t hA hz hk => ⟨rfl, ⟨Rl1, h, hm, hr.more hA hk, ho⟩, Nat.le_trans hS.1 hz, fun q h1 h2 => (hk q (Nat.lt_of_lt_of_le h1 hS.1)).trans (hS.2.1 q h1 h2)⟩) hS.2.2 (Nat.le_refl _) (Nat.le_refl _)
  · refine (show Sd _ _ _ _ _ _ _ _ _ _ _ _ _ _ _ 28 _ from (s_aload_n (pc := 28) C dX6_cell_28 rfl (s_iload_n (pc := 29) C dX6_cell_29 rfl (s_invV (pc := 30) C rfl rfl ct_5 rfl ci_X5_number wd_572 wd_573 wd_574 dX6_cell_30 ?_))))
    intro ls st h n1 n2 ho z1 z2 Rl1 H1 locs lsC stC hm hr hv1 hl1 hS
    exact vx_ret (s_lret (pc := 33) C hl0 B.returns dX6_cell_33 ls st h n1 n2 ho z1 z2 Rl1 H1 locs lsC stC hm hr hv1 hl1 hS)
end ZCELL
