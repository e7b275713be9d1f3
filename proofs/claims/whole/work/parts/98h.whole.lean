/-! the law from its entry (written by gen_w.py) -/
section ZWHOLE
variable {s : State} {args : Array Value}
theorem arr_p {ty : FieldType} (hty : isRT ty = false) (h : (Cond.arrayClass ty).before args s = true) : ∃ cA, ArrOfT s cA ty ∧ va_RA s cA ty := by
  obtain ⟨c, k, comp, h1, h2, h3⟩ := Cond.arrayClass_spec h
  refine ⟨c, fun n z => ⟨fun k h => (by cases h), k, h2, comp, h3⟩, ?_⟩
  cases ty <;> first | exact h1 | cases hty
theorem arr_o {C : String} (h : (Cond.arrayOver (.object C)).before args s = true) : ∃ cA, ArrOfT s cA (.object C) ∧ va_RA s cA (.object C) := by
  obtain ⟨comp, c, k, h1, h2, h3, h4, h5⟩ := Cond.arrayOver_spec h
  exact ⟨c, fun n z => ⟨fun k h => (by cases h), k, h3, comp, h4⟩, k, comp, h3, h4, h1, h5⟩
theorem tyK_0 (k : Nat) (hk : 8 ≤ k) : tyK k 0 = if k < 80 then .int else if k < 88 then .boolean else if k < 96 then .long else if k = 96 then .object RX5 else if k = 97 then .object RX3 else if k = 98 then .object RX1 else .int := by
  unfold tyK
  split <;> first | omega | rfl
theorem tn_in : ∀ q ∈ TN, Cond.methodLinkNest q.1 q.2.1 q.2.2 "TapeHall" ∈ lw_tbl := by decide +kernel
theorem kk0 (hts : ∀ w ∈ lw_tbl, w.before args s = true) : ∃ D, KK D s := by
  obtain ⟨c0, i0, h0⟩ := u_known (C := RX0) (T := TX0) (N := 9) (n := 9) hts (fun w hw => (List.mem_filter.mp (in_0 w hw)).1) (hts (.instantiable RX0 9) (by decide +kernel))
  obtain ⟨c1, i1, h1⟩ := u_known (C := RX1) (T := TX1) (N := 10) (n := 10) hts (fun w hw => (List.mem_filter.mp (in_1 w hw)).1) (hts (.instantiable RX1 10) (by decide +kernel))
  obtain ⟨c2, i2, h2⟩ := u_known (C := RX2) (T := TX2) (N := 14) (n := 14) hts (fun w hw => (List.mem_filter.mp (in_2 w hw)).1) (hts (.instantiable RX2 14) (by decide +kernel))
  obtain ⟨c3, i3, h3⟩ := u_known (C := RX3) (T := TX3) (N := 8) (n := 8) hts (fun w hw => (List.mem_filter.mp (in_3 w hw)).1) (hts (.instantiable RX3 8) (by decide +kernel))
  obtain ⟨c4, i4, h4⟩ := u_known (C := RX4) (T := TX4) (N := 8) (n := 8) hts (fun w hw => (List.mem_filter.mp (in_4 w hw)).1) (hts (.instantiable RX4 8) (by decide +kernel))
  obtain ⟨c5, i5, h5⟩ := u_known (C := RX5) (T := TX5) (N := 9) (n := 9) hts (fun w hw => (List.mem_filter.mp (in_5 w hw)).1) (hts (.instantiable RX5 9) (by decide +kernel))
  obtain ⟨c6, i6, h6⟩ := u_known (C := RX6) (T := TX6) (N := 18) (n := 18) hts (fun w hw => (List.mem_filter.mp (in_6 w hw)).1) (hts (.instantiable RX6 18) (by decide +kernel))
  obtain ⟨c7, i7, h7⟩ := u_known (C := RX7) (T := TX7) (N := 48) (n := 48) hts (fun w hw => (List.mem_filter.mp (in_7 w hw)).1) (hts (.instantiable RX7 48) (by decide +kernel))
  obtain ⟨cI, aI, rI⟩ := arr_p rfl (hts (.arrayClass .int) (by decide +kernel))
  obtain ⟨cZ, aZ, rZ⟩ := arr_p rfl (hts (.arrayClass .boolean) (by decide +kernel))
  obtain ⟨cL, aL, rL⟩ := arr_p rfl (hts (.arrayClass .long) (by decide +kernel))
  have w5 := hts (.arrayOver (.object RX5)) (by decide +kernel)
  have w3 := hts (.arrayOver (.object RX3)) (by decide +kernel)
  have w1 := hts (.arrayOver (.object RX1)) (by decide +kernel)
  obtain ⟨d5, a5, r5⟩ := arr_o w5
  obtain ⟨d3, a3, r3⟩ := arr_o w3
  obtain ⟨d1, a1, r1⟩ := arr_o w1
  refine ⟨(fun k => match k with | 0 => c0 | 1 => c1 | 2 => c2 | 3 => c3 | 4 => c4 | 5 => c5 | 6 => c6 | _ => c7, fun k => match k with | 0 => i0 | 1 => i1 | 2 => i2 | 3 => i3 | 4 => i4 | 5 => i5 | 6 => i6 | _ => i7, fun k => if k < 80 then cI else if k < 88 then cZ else if k < 96 then cL else if k = 96 then d5 else if k = 97 then d3 else if k = 98 then d1 else cI), ⟨?_, fun k q h => by simp at h⟩, fun k hk => ?_, fun q hq => va_Nw.of rfl (hts _ (tn_in q hq)), fun C hC => ?_⟩
  · intro k q hq
    match k, hq with
    | 0, hq => cases hq; exact h0
    | 1, hq => cases hq; exact h1
    | 2, hq => cases hq; exact h2
    | 3, hq => cases hq; exact h3
    | 4, hq => cases hq; exact h4
    | 5, hq => cases hq; exact h5
    | 6, hq => cases hq; exact h6
    | 7, hq => cases hq; exact h7
    | k + 8, hq => simp [vwCl] at hq
  · rw [tyK_0 k hk]
    show ArrOfT s (if k < 80 then cI else if k < 88 then cZ else if k < 96 then cL else if k = 96 then d5 else if k = 97 then d3 else if k = 98 then d1 else cI) _ ∧ va_RA s (if k < 80 then cI else if k < 88 then cZ else if k < 96 then cL else if k = 96 then d5 else if k = 97 then d3 else if k = 98 then d1 else cI) _
    by_cases q1 : k < 80
    · simp only [if_pos q1]
      exact ⟨aI, rI⟩
    · by_cases q2 : k < 88
      · simp only [if_neg q1, if_pos q2]
        exact ⟨aZ, rZ⟩
      · by_cases q3 : k < 96
        · simp only [if_neg q1, if_neg q2, if_pos q3]
          exact ⟨aL, rL⟩
        · by_cases q4 : k = 96
          · simp only [if_neg q1, if_neg q2, if_neg q3, if_pos q4]
            exact ⟨a5, r5⟩
          · by_cases q5 : k = 97
            · simp only [if_neg q1, if_neg q2, if_neg q3, if_neg q4, if_pos q5]
              exact ⟨a3, r3⟩
            · by_cases q6 : k = 98
              · simp only [if_neg q1, if_neg q2, if_neg q3, if_neg q4, if_neg q5, if_pos q6]
                exact ⟨a1, r1⟩
              · simp only [if_neg q1, if_neg q2, if_neg q3, if_neg q4, if_neg q5, if_neg q6]
                exact ⟨aI, rI⟩
  · simp only [List.mem_cons, List.not_mem_nil, or_false] at hC
    rcases hC with rfl | rfl | rfl
    · exact va_AO.of w5
    · exact va_AO.of w3
    · exact va_AO.of w1
theorem xth0 {b : Nat} (hts : ∀ w ∈ lw_tbl, w.before #[Value.ref b] s = true) (hgv : (Jvm.Cond.and given_1 narrow_1).before #[Value.ref b] s = true) : ∃ sa, XTh s.heap.size sa s := by
  have hs := flat_of_before _ hgv
  obtain ⟨a, -, -, -, ev, -⟩ := Cond.exactly_spec (hs (.exactly (.string "TapeHall" 184) "java/lang/String") (by decide +kernel))
  have h1 := hs (.isRef (.static Bundle.tN "UNASSIGNED_STACK" Bundle.steD)) (by decide +kernel)
  have h2 := hs (.isRef (.static Bundle.tN "SUPPRESSED_SENTINEL" Bundle.listD)) (by decide +kernel)
  exact ⟨a, vx_Zqof (hts (.laysStatic Bundle.tN "UNASSIGNED_STACK" Bundle.steD) (by decide +kernel)) (hts (.initialized Bundle.tN) (by decide +kernel)) h1 (fun a h => Nat.not_le.mpr h), vx_Zqof (hts (.laysStatic Bundle.tN "SUPPRESSED_SENTINEL" Bundle.listD) (by decide +kernel)) (hts (.initialized Bundle.tN) (by decide +kernel)) h2 (fun a h => Nat.not_le.mpr h), fun w hw => va_Nw.of (thN_tab w hw) (hts w (thN_in w hw)), vk_R.of (hts (.stringRef RX6 184 thT) (by decide +kernel)) ev⟩
end ZWHOLE
theorem hE_f {L : Nat} {xs : Nat → Int32} {k j : Nat} (h : (k == 127) = false) (h6 : ¬ (k = 6 ∧ j = 0)) : mA (wN (hE L xs) 6 0 0) k j = false := by
  rw [mA_wN, if_neg h6]
  show (k == 127 && j == 0) = false
  rw [h]
  rfl
set_option maxHeartbeats 8000000 in
set_option maxRecDepth 100000 in
theorem law_X {l : Launch} {D : DD} {base sa L : Nat} {xs : Nat → Int32} (hst : l.stackTraces = false) (hL : L ≤ 3072) (X : Nat → KT) (h0 : ∀ ls st h n1 n2, B_L_law_0 l D 100 base sa X ls st h n1 n2 → X 0 ls st h n1 n2) (h23 : ∀ ls st h n1 n2, B_L_law_23 l D 100 base sa X ls st h n1 n2 → X 23 ls st h n1 n2) (h136 : ∀ ls st h n1 n2, B_L_law_136 l D 100 base sa X ls st h n1 n2 → X 136 ls st h n1 n2) (h185 : ∀ ls st h n1 n2, B_L_law_185 l D 100 base sa X ls st h n1 n2 → X 185 ls st h n1 n2) (h210 : ∀ ls st h n1 n2, B_L_law_210 l D 100 base sa X ls st h n1 n2 → X 210 ls st h n1 n2) (h247 : ∀ ls st h n1 n2, B_L_law_247 l D 100 base sa X ls st h n1 n2 → X 247 ls st h n1 n2) (h308 : ∀ ls st h n1 n2, B_L_law_308 l D 100 base sa X ls st h n1 n2 → X 308 ls st h n1 n2) (h333 : ∀ ls st h n1 n2, B_L_law_333 l D 100 base sa X ls st h n1 n2 → X 333 ls st h n1 n2) (h370 : ∀ ls st h n1 n2, B_L_law_370 l D 100 base sa X ls st h n1 n2 → X 370 ls st h n1 n2) (h407 : ∀ ls st h n1 n2, B_L_law_407 l D 100 base sa X ls st h n1 n2 → X 407 ls st h n1 n2) (h444 : ∀ ls st h n1 n2, B_L_law_444 l D 100 base sa X ls st h n1 n2 → X 444 ls st h n1 n2) (h492 : ∀ ls st h n1 n2, B_L_law_492 l D 100 base sa X ls st h n1 n2 → X 492 ls st h n1 n2) (h508 : ∀ ls st h n1 n2, B_L_law_508 l D 100 base sa X ls st h n1 n2 → X 508 ls st h n1 n2) (h511 : ∀ ls st h n1 n2, B_L_law_511 l D 100 base sa X ls st h n1 n2 → X 511 ls st h n1 n2) (h549 : ∀ ls st h n1 n2, B_L_law_549 l D 100 base sa X ls st h n1 n2 → X 549 ls st h n1 n2) (h586 : ∀ ls st h n1 n2, B_L_law_586 l D 100 base sa X ls st h n1 n2 → X 586 ls st h n1 n2) (h623 : ∀ ls st h n1 n2, B_L_law_623 l D 100 base sa X ls st h n1 n2 → X 623 ls st h n1 n2) (h648 : ∀ ls st h n1 n2, B_L_law_648 l D 100 base sa X ls st h n1 n2 → X 648 ls st h n1 n2) (h673 : ∀ ls st h n1 n2, B_L_law_673 l D 100 base sa X ls st h n1 n2 → X 673 ls st h n1 n2) (h746 : ∀ ls st h n1 n2, B_L_law_746 l D 100 base sa X ls st h n1 n2 → X 746 ls st h n1 n2) (h783 : ∀ ls st h n1 n2, B_L_law_783 l D 100 base sa X ls st h n1 n2 → X 783 ls st h n1 n2) (h797 : ∀ ls st h n1 n2, B_L_law_797 l D 100 base sa X ls st h n1 n2 → X 797 ls st h n1 n2) (h822 : ∀ ls st h n1 n2, B_L_law_822 l D 100 base sa X ls st h n1 n2 → X 822 ls st h n1 n2) (h835 : ∀ ls st h n1 n2, B_L_law_835 l D 100 base sa X ls st h n1 n2 → X 835 ls st h n1 n2) (h860 : ∀ ls st h n1 n2, B_L_law_860 l D 100 base sa X ls st h n1 n2 → X 860 ls st h n1 n2) (h866 : ∀ ls st h n1 n2, B_L_law_866 l D 100 base sa X ls st h n1 n2 → X 866 ls st h n1 n2) : X 0 [.ref (ob 127 0), jk, jk, jk, jk, jk, jk, jk] [] (hE L xs) 0 0 := by
  apply h0
  have f60 : mA (hE L xs) 6 0 = false := rfl
  simp only [B_L_law_0, o_new, o_dup, o_as, o_ic, o_newa, o_is, lset_1, lset_2, lset_3, lset_4, opI_0, cats_nil, cats_cons, rf_s, rf_n, isR_r, isR_n, isR_rf, cat_i, cat_l, cat_r, cat_n, cat_rf, unl_i, unl_l, unl_r, unl_n, unl_j, unl_rf, orf_r, orf_n, orf_rf, rf_null, mA_pm, mL_pm, mP_pm, List.length_cons, List.length_nil, List.cons_append, List.nil_append, Nat.reduceAdd, Nat.reduceLeDiff, Nat.reduceLT, Nat.reduceEqDiff, Nat.zero_add, Nat.add_zero, Nat.le_refl, Nat.zero_le, true_and, and_true, true_or, or_true, false_or, or_false, reduceIte, o_new, o_dup, o_as, o_is, o_newa, o_ic, tl_1, l0_1, lset_1, lset_2, lset_3, lset_4, opI_0, not_false_eq_true]
  refine ⟨0, rfl, sp_ctor6 (d := 98) (by rw [mA_wN, if_pos ⟨rfl, rfl⟩]) (fun i => by rw [mI_wN, if_pos ⟨rfl, rfl⟩]) (hE_f rfl (by decide)) (hE_f rfl (by decide)) (hE_f rfl (by decide)) (hE_f rfl (by decide)) (hE_f rfl (by decide)) (hE_f rfl (by decide)) (hE_f rfl (by decide)) (hE_f rfl (by decide)) (hE_f rfl (by decide)) (hE_f rfl (by decide)) (hE_f rfl (by decide)) (hE_f rfl (by decide)) (hE_f rfl (by decide)) (hE_f rfl (by decide)) (hE_f rfl (by decide)) (hE_f rfl (by decide)) (hE_f rfl (by decide)) (hE_f rfl (by decide)) (hE_f rfl (by decide)) (fun h6 F6 q6 => ?_)⟩
  simp only [List.nil_append, isR_r, true_and, unl_r, cats_nil, cats_cons, cat_r, Nat.reduceAdd, Nat.reduceLeDiff]
  refine ⟨0, ((F6 7 rfl).1 0).trans (hE_f rfl (by decide)), sp_ctor7 (d := 99) (by rw [mA_wN, if_pos ⟨rfl, rfl⟩]) (fun i => by rw [mI_wN, if_pos ⟨rfl, rfl⟩]) (by rw [mA_wN, if_neg (by decide)]; exact ((F6 20 rfl).1 0).trans (hE_f rfl (by decide))) (by rw [mA_wN, if_neg (by decide)]; exact ((F6 21 rfl).1 0).trans (hE_f rfl (by decide))) (by rw [mA_wN, if_neg (by decide)]; exact ((F6 22 rfl).1 0).trans (hE_f rfl (by decide))) (by rw [mA_wN, if_neg (by decide)]; exact ((F6 23 rfl).1 0).trans (hE_f rfl (by decide))) (by rw [mA_wN, if_neg (by decide)]; exact ((F6 24 rfl).1 0).trans (hE_f rfl (by decide))) (by rw [mA_wN, if_neg (by decide)]; exact ((F6 91 rfl).1 0).trans (hE_f rfl (by decide))) (by rw [mA_wN, if_neg (by decide)]; exact ((F6 25 rfl).1 0).trans (hE_f rfl (by decide))) (by rw [mA_wN, if_neg (by decide)]; exact ((F6 26 rfl).1 0).trans (hE_f rfl (by decide))) (by rw [mA_wN, if_neg (by decide)]; exact ((F6 27 rfl).1 0).trans (hE_f rfl (by decide))) (by rw [mA_wN, if_neg (by decide)]; exact ((F6 28 rfl).1 0).trans (hE_f rfl (by decide))) (by rw [mA_wN, if_neg (by decide)]; exact ((F6 29 rfl).1 0).trans (hE_f rfl (by decide))) (by rw [mA_wN, if_neg (by decide)]; exact ((F6 30 rfl).1 0).trans (hE_f rfl (by decide))) (by rw [mA_wN, if_neg (by decide)]; exact ((F6 31 rfl).1 0).trans (hE_f rfl (by decide))) (by rw [mA_wN, if_neg (by decide)]; exact ((F6 92 rfl).1 0).trans (hE_f rfl (by decide))) (by rw [mA_wN, if_neg (by decide)]; exact ((F6 32 rfl).1 0).trans (hE_f rfl (by decide))) (by rw [mA_wN, if_neg (by decide)]; exact ((F6 33 rfl).1 0).trans (hE_f rfl (by decide))) (by rw [mA_wN, if_neg (by decide)]; exact ((F6 34 rfl).1 0).trans (hE_f rfl (by decide))) (by rw [mA_wN, if_neg (by decide)]; exact ((F6 35 rfl).1 0).trans (hE_f rfl (by decide))) (by rw [mA_wN, if_neg (by decide)]; exact ((F6 36 rfl).1 0).trans (hE_f rfl (by decide))) (by rw [mA_wN, if_neg (by decide)]; exact ((F6 37 rfl).1 0).trans (hE_f rfl (by decide))) (by rw [mA_wN, if_neg (by decide)]; exact ((F6 38 rfl).1 0).trans (hE_f rfl (by decide))) (by rw [mA_wN, if_neg (by decide)]; exact ((F6 39 rfl).1 0).trans (hE_f rfl (by decide))) (by rw [mA_wN, if_neg (by decide)]; exact ((F6 40 rfl).1 0).trans (hE_f rfl (by decide))) (by rw [mA_wN, if_neg (by decide)]; exact ((F6 41 rfl).1 0).trans (hE_f rfl (by decide))) (by rw [mA_wN, if_neg (by decide)]; exact ((F6 42 rfl).1 0).trans (hE_f rfl (by decide))) (by rw [mA_wN, if_neg (by decide)]; exact ((F6 43 rfl).1 0).trans (hE_f rfl (by decide))) (by rw [mA_wN, if_neg (by decide)]; exact ((F6 80 rfl).1 0).trans (hE_f rfl (by decide))) (by rw [mA_wN, if_neg (by decide)]; exact ((F6 44 rfl).1 0).trans (hE_f rfl (by decide))) (by rw [mA_wN, if_neg (by decide)]; exact ((F6 45 rfl).1 0).trans (hE_f rfl (by decide))) (by rw [mA_wN, if_neg (by decide)]; exact ((F6 46 rfl).1 0).trans (hE_f rfl (by decide))) (by rw [mA_wN, if_neg (by decide)]; exact ((F6 81 rfl).1 0).trans (hE_f rfl (by decide))) (by rw [mA_wN, if_neg (by decide)]; exact ((F6 47 rfl).1 0).trans (hE_f rfl (by decide))) (by rw [mA_wN, if_neg (by decide)]; exact ((F6 48 rfl).1 0).trans (hE_f rfl (by decide))) (by rw [mA_wN, if_neg (by decide)]; exact ((F6 49 rfl).1 0).trans (hE_f rfl (by decide))) (by rw [mA_wN, if_neg (by decide)]; exact ((F6 50 rfl).1 0).trans (hE_f rfl (by decide))) (fun h7 F7 q7 => ?_)⟩
  simp only [List.nil_append, isR_r, true_and, unl_r]
  refine ⟨0, ?_, ?_⟩
  · rw [(F7 90 rfl).1 0, mA_wN, if_neg (by decide)]
    exact ((F6 90 rfl).1 0).trans (hE_f rfl (by decide))
  · have hI := inb0 F6 q6 F7 q7 rfl
    rw [← pm_self (wN h7 90 0 1)]
    exact lc_loop (d := 80) hst h23 h136 h185 h210 h247 h308 h333 h370 h407 h444 h492 h508 h511 h549 h586 h623 h648 h673 h746 h783 h797 h822 h835 h860 h866 hL 513 0 rfl _ _ _ _ _ _ _ hI (by decide) (by decide)
set_option maxHeartbeats 4000000 in
set_option maxRecDepth 100000 in
/-- from the entry, for every script of at most 3072 ints, the law comes to its end with true -/
theorem whole_start {p : Program} {e : Env} {s : State} {m : MethodId} {below : List Frame} {meth : Method} {c : Code} (l : Launch) (hflags : l.flags = flags0) {b L : Nat} {xs : Nat → Int32} (hL : L ≤ 3072) (C0 : lw_At p s m meth c b L xs) : W p l e room_1 s m #[Value.ref b] below meth c s.heap [] 0 0 (lw_Z below #[Value.ref b] s) (entryFrame m ([Value.ref b] : List Value).toArray 8) := by
  obtain ⟨hx, hb, hr, hml, hown, hts, hX, hbl, hlocks, hgv⟩ := id C0
  obtain ⟨D, hK⟩ := kk0 hts
  obtain ⟨sa, hT⟩ := xth0 hts hgv
  have hst : l.stackTraces = false := by
    unfold Launch.stackTraces
    rw [hflags]
    decide +kernel
  have C : CX p room_1 s m #[Value.ref b] c D s.heap.size 8 cL_law RL 100 := ⟨hx, hb, hml, hown, fun w hw => hts w (List.mem_filter.mp hw).1, hK, Nat.le_refl _, Nat.le_of_ble_eq_true rfl, Nat.le_of_ble_eq_true rfl⟩
  have k := m_L_law (d := 100) (e := e) (l := l) (below := below) (lsA := [.ref (ob 127 0), jk, jk, jk, jk, jk, jk, jk]) (h := hE L xs) (Rl0 := fun i a => i = ob 127 0 ∧ a = b) C hlocks hr rfl rfl hT (fun X h0 h23 h136 h185 h210 h247 h308 h333 h370 h407 h444 h492 h508 h511 h549 h586 h623 h648 h673 h746 h783 h797 h822 h835 h860 h866 => law_X hst hL X h0 h23 h136 h185 h210 h247 h308 h333 h370 h407 h444 h492 h508 h511 h549 h586 h623 h648 h673 h746 h783 h797 h822 h835 h860 h866)
  have hl := lv_entry ([.ref b]) (n := 8) (Nat.le_of_ble_eq_true rfl)
  rw [lg_entry_eq]
  generalize (lg_sl ([.ref b]) ++ List.replicate (8 - (lg_sl ([.ref b])).length) Slot.unset).toArray = ls at hl ⊢
  refine k (Nat.zero_le _) (Nat.zero_le _) (fun i a => i = ob 127 0 ∧ a = b) s.heap [] ls [] (fun _ _ q => q) ⟨fun i a a' p q => p.2.trans q.2.symm, fun i i' a p q => p.1.trans q.1.symm, fun i a q => ?_⟩ trivial ⟨hl.1, hl.2.1, fun i v hi hj => ?_⟩ va_S.rf
  · obtain ⟨rfl, rfl⟩ := q
    rw [kd_127, ix_127]
    refine ⟨rfl, fun z => absurd rfl z, ?_⟩
    have e1 : mL (hE L xs) 127 0 = L := by
      show (if (127 : Nat) = 127 ∧ (0 : Nat) = 0 then L else 0) = L
      exact if_pos ⟨rfl, rfl⟩
    have e2 : (fun i => mI (hE L xs) 127 i 0) = xs := by
      funext i
      show (if (127 : Nat) = 127 ∧ (0 : Nat) = 0 then xs i else 0) = xs i
      exact if_pos ⟨rfl, rfl⟩
    unfold CRel
    rw [if_neg (by decide), if_pos rfl, e1, e2]
    exact hX
  · match i, hi with
    | 0, hi =>
      cases hi
      exact ⟨.ref b, hl.2.2 (0, .ref b) List.mem_cons_self, b, rfl, rfl, rfl⟩
    | i + 1, hi =>
      have h9 := List.mem_of_getElem? hi
      rw [List.getElem?_cons_succ] at hi
      have h8 := List.mem_of_getElem? hi
      simp only [List.mem_cons, List.not_mem_nil, or_false, or_self] at h8
      rw [h8] at hj
      cases hj
