/-! L_cell: 1 where the class throws, else 0 and what it answered in out[0] -/
section ZLCELL
variable {l : Launch} {D : DD} {d : Nat} {h : HP} {Qp : List Value → HP → Prop} {base sa : Nat}
theorem ci_X6_cell : CI yX6_cell cX6_cell 4 2 (some FieldType.long) := ⟨⟨by decide +kernel, by decide +kernel, by decide +kernel⟩, by decide, w_c10, wd_53⟩
def wsLc : List Cond := .codeWith yL_cell cL_cell 5 (some .int) [(0, 9, 12, 13)] :: TB
def Lc (l : Launch) (D : DD) (d base sa : Nat) (as : List Value) (h : HP) (Qp : List Value → HP → Prop) : Prop :=
  ∀ (Rl : Nat → Nat → Prop) (asC : List Value), VL Rl as asC → vx_Met l yL_cell wsLc (rmk d 1 6) (Px D base sa Rl asC h) (QcR D base Rl Qp) (fun _ _ _ => False) 1 6 (fun q => base ≤ q)
def o_cc (h0 : HP) (x y : Int32) : KT := fun ls st h n1 n2 => ls = [.ref (ob 6 0), .int x, .int y, .ref (ob 90 0), jk] ∧ st = [.int y, .int x, .ref (ob 6 0), .int 0, .ref (ob 90 0)] ∧ n1 = 0 ∧ n2 = 0 ∧ h = h0
set_option maxRecDepth 20000 in
set_option maxHeartbeats 4000000 in
theorem m_L_cell {x y : Int32} (ha : AL h 6 (ob 6 0)) (hC : Ct l D d base sa [.ref (ob 6 0), .int x, .int y] h (fun r h' => ∃ v, r = [.long v] ∧ vp_in 0 (mL h' 90 0) ∧ Qp [.int 0] (wJ h' 90 0 0 v)) (fun h' => Qp [.int 1] h')) :
    Lc l D (d + 1) base sa [.ref (ob 6 0), .int x, .int y, .ref (ob 90 0)] h Qp := by
  intro Rl asC hv
  refine vx_ofWH (cc := cL_cell) (maxL := 5) (ret := some .int) (hh := [(0, 9, 12, 13)]) rfl rfl ?_
  intro p e s m args below meth c s₁ B hml hP
  have hl0 : meth.locks = false := B.notSynchronized
  refine ent_W B (fun w hw => List.mem_cons_of_mem _ hw) hml hP.1 hv (lsA := [.ref (ob 6 0), .int x, .int y, .ref (ob 90 0), jk]) rfl (Nat.le_of_ble_eq_true rfl) fun C => ?_
  have hR := B.returns
  have htab : c.exceptionTable.toList = [] ++ (⟨0, 9, 12, 13⟩ : ExceptionTableEntry) :: [] := vx_table (x := yL_cell) B (atoms_spec (ws := wsLc) B.pre _ List.mem_cons_self)
  have RET : ∀ pc, decode cL_cell pc = .ok (.ireturn, 1) → Sd p l e (rmk (d + 1) 1 6) s m args below meth c (vx_MQ below (QcR D base Rl Qp) (fun _ _ _ => False) args s 1 6 (fun q => base ≤ q)) D base 5 Rl pc (o_iret Qp) := by
    intro pc hd ls st h1 n1 n2 ho z1 z2 Rl1 H1 locs lsC stC hm hr hv1 hl1 hS
    exact vx_ret (s_iret (pc := pc) C hl0 hR hd ls st h1 n1 n2 ho z1 z2 Rl1 H1 locs lsC stC hm hr hv1 hl1 hS)
  have K8 := s_lastore (pc := 8) C dL_cell_8 (s_goto (pc := 9) (tgt := 16) C dL_cell_9 (by decide) (s_iconst (pc := 16) (v := 0) C dL_cell_16 rfl (RET 17 dL_cell_17)))
  have K14 := s_iconst (pc := 14) (v := 1) C dL_cell_14 rfl (RET 15 dL_cell_15)
  have K5 : Sd p l e (rmk (d + 1) 1 6) s m args below meth c (vx_MQ below (QcR D base Rl Qp) (fun _ _ _ => False) args s 1 6 (fun q => base ≤ q)) D base 5 Rl 5 (o_cc h x y) := by
    intro ls st h1 n1 n2 ⟨e1, e2, e3, e4, e5⟩ z1 z2 Rl1 H1 locs lsC stC hm hr hv1 hl1 hS
    subst e1; subst e2; subst e3; subst e4; subst e5
    obtain ⟨v1, rfl, hv2⟩ := hv1.int'
    obtain ⟨v2, rfl, hv3⟩ := hv2.int'
    obtain ⟨a1, v3, rfl, ha1, hv4⟩ := hv3.ref'
    obtain ⟨v4, rfl, hv5⟩ := hv4.int'
    obtain ⟨a2, v5, rfl, ha2, hv6⟩ := hv5.ref'
    rw [hv6.nil'] at *
    obtain ⟨V, ⟨cell, q1, q2, q3, -⟩, -, -⟩ := ha.obj hr ha1 (by decide) (by decide)
    have hfc := (C.2.2.2.2.2.1.1.1 6 _ ct_6.1).2.1
    have run := vx_runV (As := [.int x, .int y]) (rest := [.int 0, .ref a2]) (g := F0 m 5 lsC [.int y, .int x, .ref a1, .int 0, .ref a2]) (H := H1) (locs := locs) (cells := 0) (slots := 0) (e := e) (below := below) (meth := meth) C.fix (hC Rl1 [.ref a1, .int x, .int y] ⟨⟨a1, rfl, ha1⟩, rfl, rfl, trivial⟩) (C := RX6) (b := a1) ⟨lnk_s C ci_X6_cell w_c7, C.2.2.2.2.1 _ w_c8, C.2.2.2.2.1 _ w_c9⟩ ⟨Px.blind, ⟨cell, q1, by rw [q3]; rfl, by rw [q2]; exact hfc⟩, (pre_x C hP.2 hr hS).2⟩ rfl rfl hl1.1 rfl (Nat.le_of_ble_eq_true rfl) dL_cell_5 ⟨Nat.le_refl _, Nat.le_refl _⟩
    intro T hT X
    rcases run T hT X with ⟨v, st₀, t, T', L, h0, X', hL, e1, e2, hQ, hgo⟩ | ⟨q, st₀, t, T', L, E, ce, h0, X', hL, e1, e2, hXC, hce, hcv, hcl, hst⟩
    · obtain ⟨⟨Rl', r, rC, h', hmm, ho, hvl, hrr, w, rfl, hin, hq⟩, hz, hk⟩ := hQ
      cases ho
      rw [h0] at hz hk
      have hal : t.vm.Alike s.vm := by rw [← e2]; exact X'.warmed.alike.symm
      have hS' : va_S (fun q => base ≤ q) s.heap T'.heap (locs ++ L) := ⟨Nat.le_trans hS.1 (by rw [e1]; exact hz), fun q h1 h2 => by rw [e1, hk q (Nat.lt_of_lt_of_le h1 hS.1) h2]; exact hS.2.1 q h1 h2, fun q hq => by
        rcases List.mem_append.mp hq with h | h
        · exact hS.2.2 q h
        · exact hL q h⟩
      have hv9 : VL Rl' ([.long w] ++ [.int 0, .ref (ob 90 0)]) (v.toList ++ ([.int 0, .ref a2] : List Value)) := VL.app (us' := [.int 0, .ref (ob 90 0)]) (vs' := [.int 0, .ref a2]) hvl ⟨rfl, ⟨a2, rfl, hmm _ _ ha2⟩, trivial⟩
      obtain ⟨t2, a1, b1⟩ := K8 [.ref (ob 6 0), .int x, .int y, .ref (ob 90 0), jk] [.long w, .int 0, .ref (ob 90 0)] h' 1 6 ⟨by decide, hin, hq⟩ (Nat.le_refl _) (Nat.le_refl _) Rl' T'.heap (locs ++ L) lsC (v.toList ++ ([.int 0, .ref a2] : List Value)) (fun i a z => hmm i a (hm i a z)) (by rw [e1]; exact hrr.moved hal) hv9 (hl1.mono hmm) hS' T' rfl X'
      exact ⟨t2, hgo t2 a1, b1⟩
    · obtain ⟨rfl, ⟨Rl', h', hmm, hrr, hq⟩, hz, hk⟩ := hXC
      rw [h0] at hz hk
      have hal : t.vm.Alike s.vm := by rw [← e2]; exact X'.warmed.alike.symm
      have hS' : va_S (fun q => base ≤ q) s.heap T'.heap (locs ++ L) := ⟨Nat.le_trans hS.1 (by rw [e1]; exact hz), fun q h1 h2 => by rw [e1, hk q (Nat.lt_of_lt_of_le h1 hS.1) h2]; exact hS.2.1 q h1 h2, fun q hq => by
        rcases List.mem_append.mp hq with h | h
        · exact hS.2.2 q h
        · exact hL q h⟩
      have cat : vx_W p l e (rmk (d + 1) 1 6) s m args below meth c T'.heap (locs ++ L) 1 6 (vx_MQ below (QcR D base Rl Qp) (fun _ _ _ => False) args s 1 6 (fun q => base ≤ q)) (F0 m 5 lsC [.int 0, .ref a2]) q := by
        refine vx_catch (own := RL) (name := NSE) (E := NSE) C.2.2.2.1 [] ⟨0, 9, 12, 13⟩ [] htab (fun z hz => nomatch hz) rfl (by decide) (C.2.2.2.2.1 _ w_c6) ((hP.2.2.2.1 _ List.mem_cons_self).use rfl) (by rw [e1]; exact hce) hcv hcl ?_
        exact lv_astore C.1 C.2.1 dL_cell_12 hl1.all (by decide) rfl (fun ls' h'' => K14 (lset [.ref (ob 6 0), .int x, .int y, .ref (ob 90 0), jk] 4 jk) [] h' 1 6 hq (Nat.le_refl _) (Nat.le_refl _) Rl' T'.heap (locs ++ L) ls' [] (fun i a z => hmm i a (hm i a z)) (by rw [e1]; exact hrr.moved hal) trivial ((hl1.stJ h'').mono hmm) hS')
      obtain ⟨t2, a1, b1⟩ := cat T' rfl X'
      exact ⟨t2, hst.trans a1, b1⟩
  exact (show Sd _ _ _ _ _ _ _ _ _ _ _ _ _ _ _ 0 _ from (s_aload_n (pc := 0) C dL_cell_0 rfl (s_iconst (pc := 1) (v := 0) C dL_cell_1 rfl (s_aload_n (pc := 2) C dL_cell_2 rfl (s_iload_n (pc := 3) C dL_cell_3 rfl (s_iload_n (pc := 4) C dL_cell_4 rfl K5)))))) [.ref (ob 6 0), .int x, .int y, .ref (ob 90 0), jk] [] h 0 0 ⟨trivial, trivial, rfl, rfl, rfl, rfl, rfl⟩
end ZLCELL
