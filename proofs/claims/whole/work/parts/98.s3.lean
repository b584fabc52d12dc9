/-! the law's loop: both sides answer alike -/
theorem fin_same {A : Option Int32} {x : Int32} (hA : A = some 1) : (if x = x then A else some 0) = some 1 := by rw [if_pos rfl, hA]
theorem fin_k {A : Option Int32} {k : Int32} (hA : A = some 1) : (if f_X4_thrown k = k then A else some 0) = some 1 := by rw [if_pos (show f_X4_thrown k = k from rfl), hA]
theorem fin_eq {A : Option Int32} {k ans : Int32} {ou' : Nat → Int64} (hA : A = some 1) (hk : k = 0 → ou' 0 = ans.toInt64) : (if f_X4_thrown k = k then (if k = 0 then (if lg_cmp (ou' ((0 : Int32)).toNatClampNeg) (ans.toInt64) = 0 then A else some 0) else A) else some 0) = some 1 := by
  rw [if_pos (show f_X4_thrown k = k from rfl), show ((0 : Int32)).toNatClampNeg = 0 from by decide]
  by_cases h : k = 0
  · rw [if_pos h, if_pos ((lg_cmp_eq _ _).mpr (hk h)), hA]
  · rw [if_neg h, hA]
theorem fin_bar {A : Option Int32} {k ans : Int32} {ou' : Nat → Int64} (hA : A = some 1) (hk : k = 0 → (ans = 0 → ou' 0 = 0) ∧ (¬ ans = 0 → ou' 0 = 1)) : (if f_X4_thrown k = k then (if k = 0 then (if ans = 0 then (if lg_cmp (ou' ((0 : Int32)).toNatClampNeg) 0 = 0 then A else some 0) else (if lg_cmp (ou' ((0 : Int32)).toNatClampNeg) 1 = 0 then A else some 0)) else A) else some 0) = some 1 := by
  rw [if_pos (show f_X4_thrown k = k from rfl), show ((0 : Int32)).toNatClampNeg = 0 from by decide]
  by_cases h : k = 0
  · obtain ⟨h1, h2⟩ := hk h
    rw [if_pos h]
    by_cases ha : ans = 0
    · rw [if_pos ha, if_pos ((lg_cmp_eq _ _).mpr (h1 ha)), hA]
    · rw [if_neg ha, if_pos ((lg_cmp_eq _ _).mpr (h2 ha)), hA]
  · rw [if_neg h, hA]
theorem exit_lt {L v : Nat} (hL : L ≤ 1536) (hv : v ≤ L + 3) (h : ¬ v + 3 ≤ L) : nI L - 3 < nI v := by
  by_cases h3 : 3 ≤ L
  · rw [show (3 : Int32) = nI 3 from rfl, nI_sub h3]
    exact nI_lt (by omega) (by omega)
  · rw [Int32.lt_iff_toInt_lt, nI_toInt (show v < 2 ^ 31 by omega)]
    have hl : L = 0 ∨ L = 1 ∨ L = 2 := by omega
    rcases hl with rfl | rfl | rfl
    · have : (nI 0 - 3).toInt = -3 := by decide
      omega
    · have : (nI 1 - 3).toInt = -2 := by decide
      omega
    · have : (nI 2 - 3).toInt = -1 := by decide
      omega
theorem exit_ge {L v : Nat} (hL : L ≤ 1536) (h : v + 3 ≤ L) : ¬ nI L - 3 < nI v := by
  rw [show (3 : Int32) = nI 3 from rfl, nI_sub (show 3 ≤ L by omega)]
  exact nI_nlt (by omega) (by omega)
set_option maxRecDepth 100000 in
set_option maxHeartbeats 4000000 in
theorem law_L (xs : Nat → Int32) (L : Nat) (hL : L ≤ 1536) {N : Nat} (hN : 50000 < N) : ∀ (nn : Nat) {v : Nat} {size rc : Int32} {g fs st ln su rr cr : Nat → Int32} {bc : Int32} {bl td fi fa : Nat → Int32} {tk gr : Int32} {se sr : Nat → Int32} {mth msz mrn mmy mdf mgu mhs mlv : Int32} {mba mgi mfi mle mst msu mtr mdi mfa mca : Nat → Int32} {ou : Nat → Int64}, L + 3 < v + 3 * nn → v ≤ L + 3 → INV size rc g fs st ln su rr cr msz mrn mba mgi mfi mle mst msu → f_L_law_L23 N L xs nn (nI v) size rc g fs st ln su rr cr bc bl td fi fa tk gr se sr mth msz mrn mmy mdf mgu mhs mlv mba mgi mfi mle mst msu mtr mdi mfa mca ou = some 1 := by
  intro nn
  induction nn with
  | zero => intros; omega
  | succ m ih =>
    intro v size rc g fs st ln su rr cr bc bl td fi fa tk gr se sr mth msz mrn mmy mdf mgu mhs mlv mba mgi mfi mle mst msu mtr mdi mfa mca ou hf hvL hI
    by_cases hex : v + 3 ≤ L
    case neg => rw [f_L_law_L23.eq_2, if_pos (exit_lt hL hvL hex)]
    have hin0 : inR (nI v) L := inR_in (by omega) (by omega)
    have hin1 : inR (nI v + 1) L := by rw [nI_1]; exact inR_in (by omega) (by omega)
    have hin2 : inR (nI v + 2) L := by rw [show (2 : Int32) = nI 2 from rfl, nI_add]; exact inR_in (by omega) (by omega)
    have h3 : nI v + 3 = nI (v + 3) := nI_add v 3
    have hf' : L + 3 < v + 3 + 3 * m := by omega
    have hv' : v + 3 ≤ L + 3 := by omega
    rw [f_L_law_L23.eq_2, if_neg (exit_ge hL hex), gd_t hin0, h3]
    by_cases c0 : (xs ((nI v : Int32)).toNatClampNeg &&& 31) = 0
    · obtain ⟨k, size', rc', g', fs', st', ln', su', rr', cr', msz', mrn', mba', mgi', mfi', mle', mst', msu', q1, q2, q3⟩ := begin_both hI hN mth (xs (nI v + 1).toNatClampNeg)
      rw [if_pos c0, gd_t hin1, q1, Option.bind_some, gd_t hin1, q2, Option.bind_some]
      exact fin_k (ih (v := v + 3) hf' hv' q3)
    rw [if_neg c0]
    by_cases c1 : (xs ((nI v : Int32)).toNatClampNeg &&& 31) = 1
    · obtain ⟨k, ans, rc', g', fs', st', ln', su', rr', cr', ou', mrn', mba', mgi', mfi', mle', mst', msu', q1, q2, qk, q3⟩ := bar_both hI hN mth (xs (nI v + 1).toNatClampNeg) ou
      rw [if_pos c1, gd_t hin1, q1, Option.bind_some, gd_t hin1, q2, Option.bind_some]
      exact fin_bar (ih (v := v + 3) hf' hv' q3) qk
    rw [if_neg c1]
    by_cases c2 : (xs ((nI v : Int32)).toNatClampNeg &&& 31) = 2
    · obtain ⟨k, ans, rc', g', fs', st', ln', su', rr', cr', ou', mrn', mba', mgi', mfi', mle', mst', msu', q1, q2, qk, q3⟩ := barBoth_both hI hN mth (xs (nI v + 1).toNatClampNeg) ou
      rw [if_pos c2, gd_t hin1, q1, Option.bind_some, gd_t hin1, q2, Option.bind_some]
      exact fin_eq (ih (v := v + 3) hf' hv' q3) qk
    rw [if_neg c2]
    by_cases c3 : (xs ((nI v : Int32)).toNatClampNeg &&& 31) = 3
    · obtain ⟨k, ans, g', ou', mgi', q1, q2, qk, q3⟩ := give_both hI mth (xs (nI v + 1).toNatClampNeg) (xs (nI v + 2).toNatClampNeg) ou
      rw [if_pos c3, gd_t hin1, gd_t hin2, q1, Option.bind_some, gd_t hin1, gd_t hin2, q2, Option.bind_some]
      exact fin_eq (ih (v := v + 3) hf' hv' q3) qk
    rw [if_neg c3]
    by_cases c4 : (xs ((nI v : Int32)).toNatClampNeg &&& 31) = 4
    · obtain ⟨k, ans, su', ou', msu', q1, q2, qk, q3⟩ := setSum_both hI mth (xs (nI v + 1).toNatClampNeg) (xs (nI v + 2).toNatClampNeg) ou
      rw [if_pos c4, gd_t hin1, gd_t hin2, q1, Option.bind_some, gd_t hin1, gd_t hin2, q2, Option.bind_some]
      exact fin_eq (ih (v := v + 3) hf' hv' q3) qk
    rw [if_neg c4]
    by_cases c5 : (xs ((nI v : Int32)).toNatClampNeg &&& 31) = 5
    · obtain ⟨k, ans, g', su', ou', mgi', msu', mdi', q1, q2, qk, q3⟩ := press_both hI hN mth mdi ou
      rw [if_pos c5, q1, Option.bind_some, q2, Option.bind_some]
      exact fin_eq (ih (v := v + 3) hf' hv' q3) qk
    rw [if_neg c5]
    by_cases c6 : (xs ((nI v : Int32)).toNatClampNeg &&& 31) = 6
    · obtain ⟨ans, q1, q2⟩ := open_both hI hN mth
      rw [if_pos c6, q1, Option.bind_some, q2, Option.bind_some]
      exact fin_same (ih (v := v + 3) hf' hv' hI)
    rw [if_neg c6]
    by_cases c7 : (xs ((nI v : Int32)).toNatClampNeg &&& 31) = 7
    · obtain ⟨q1, q2⟩ := runs_both hI mth
      rw [if_pos c7, jn_p, q2, q1]
      exact fin_same (ih (v := v + 3) hf' hv' hI)
    rw [if_neg c7]
    by_cases c8 : (xs ((nI v : Int32)).toNatClampNeg &&& 31) = 8
    · obtain ⟨k, ans, ou', q1, q2, qk⟩ := firstOf_both hI mth (xs (nI v + 1).toNatClampNeg) ou
      rw [if_pos c8, gd_t hin1, q1, Option.bind_some, gd_t hin1, q2, Option.bind_some]
      exact fin_eq (ih (v := v + 3) hf' hv' hI) qk
    rw [if_neg c8]
    by_cases c9 : (xs ((nI v : Int32)).toNatClampNeg &&& 31) = 9
    · obtain ⟨k, ans, ou', q1, q2, qk⟩ := lengthOf_both hI mth (xs (nI v + 1).toNatClampNeg) ou
      rw [if_pos c9, gd_t hin1, q1, Option.bind_some, gd_t hin1, q2, Option.bind_some]
      exact fin_eq (ih (v := v + 3) hf' hv' hI) qk
    rw [if_neg c9]
    by_cases c10 : (xs ((nI v : Int32)).toNatClampNeg &&& 31) = 10
    · obtain ⟨k, ans, ou', q1, q2, qk⟩ := sumOf_both hI mth (xs (nI v + 1).toNatClampNeg) ou
      rw [if_pos c10, gd_t hin1, q1, Option.bind_some, gd_t hin1, q2, Option.bind_some]
      exact fin_eq (ih (v := v + 3) hf' hv' hI) qk
    rw [if_neg c10]
    by_cases c11 : (xs ((nI v : Int32)).toNatClampNeg &&& 31) = 11
    · obtain ⟨k, ans, ou', q1, q2, qk⟩ := digit_both hI mth (xs (nI v + 1).toNatClampNeg) ou
      rw [if_pos c11, gd_t hin1, q1, Option.bind_some, gd_t hin1, q2, Option.bind_some]
      exact fin_eq (ih (v := v + 3) hf' hv' hI) qk
    rw [if_neg c11]
    by_cases c12 : (xs ((nI v : Int32)).toNatClampNeg &&& 31) = 12
    · obtain ⟨k, ans, bc', bl', td', fi', fa', ou', mmy', mdf', mgu', mtr', mdi', mfa', q1, q2, qk⟩ := answers_both hI hN mth (xs (nI v + 1).toNatClampNeg) bc bl td fi fa ou mmy mdf mgu mtr mdi mfa
      rw [if_pos c12, gd_t hin1, q1, Option.bind_some, gd_t hin1, q2, Option.bind_some]
      exact fin_eq (ih (v := v + 3) hf' hv' hI) qk
    rw [if_neg c12]
    by_cases c13 : (xs ((nI v : Int32)).toNatClampNeg &&& 31) = 13
    · obtain ⟨k, ans, bc', bl', td', fi', ou', mmy', mtr', mdi', q1, q2, qk⟩ := allL_both hI hN mth bc bl td fi ou mmy mtr mdi
      rw [if_pos c13, q1, Option.bind_some, q2, Option.bind_some]
      exact fin_eq (ih (v := v + 3) hf' hv' hI) qk
    rw [if_neg c13]
    by_cases c14 : (xs ((nI v : Int32)).toNatClampNeg &&& 31) = 14
    · obtain ⟨k, ans, g', bc', bl', td', fi', fa', ou', mmy', mdf', mgu', mgi', mtr', mdi', mfa', q1, q2, qk, q3⟩ := mend_both hI hN mth bc bl td fi fa ou mmy mdf mgu mtr mdi mfa
      rw [if_pos c14, q1, Option.bind_some, q2, Option.bind_some]
      exact fin_eq (ih (v := v + 3) hf' hv' q3) qk
    rw [if_neg c14]
    by_cases c15 : (xs ((nI v : Int32)).toNatClampNeg &&& 31) = 15
    · obtain ⟨ans, tk', gr', se', sr', mhs', mlv', mca', q1, q2⟩ := level_both hI hN mth tk gr mhs mlv se sr mca
      rw [if_pos c15, q1, Option.bind_some, q2, Option.bind_some]
      exact fin_same (ih (v := v + 3) hf' hv' hI)
    rw [if_neg c15]
    by_cases c16 : (xs ((nI v : Int32)).toNatClampNeg &&& 31) = 16
    · obtain ⟨k, ans, tk', gr', se', sr', ou', mhs', mlv', mca', q1, q2, qk⟩ := candidates_both hI hN mth (xs (nI v + 1).toNatClampNeg) (xs (nI v + 2).toNatClampNeg) tk gr mhs mlv se sr mca ou
      rw [if_pos c16, gd_t hin1, gd_t hin2, q1, Option.bind_some, gd_t hin1, gd_t hin2, q2, Option.bind_some]
      exact fin_eq (ih (v := v + 3) hf' hv' hI) qk
    rw [if_neg c16]
    by_cases c17 : (xs ((nI v : Int32)).toNatClampNeg &&& 31) = 17
    · obtain ⟨ans, tk', gr', se', sr', mhs', mlv', mca', q1, q2⟩ := hint_both hI hN mth tk gr mhs mlv se sr mca
      rw [if_pos c17, q1, Option.bind_some, q2, Option.bind_some]
      exact fin_same (ih (v := v + 3) hf' hv' hI)
    rw [if_neg c17]
    by_cases c18 : (xs ((nI v : Int32)).toNatClampNeg &&& 31) = 18
    · obtain ⟨ans, tk', gr', se', sr', mhs', mlv', mca', q1, q2⟩ := hintRules_both hI hN mth tk gr mhs mlv se sr mca
      rw [if_pos c18, q1, Option.bind_some, q2, Option.bind_some]
      exact fin_same (ih (v := v + 3) hf' hv' hI)
    rw [if_neg c18]
    exact ih (v := v + 3) hf' hv' hI
theorem law_one (xs : Nat → Int32) (L : Nat) (hL : L ≤ 1536) : ∃ N rB rM, f_X0_clear N 0 0 (fun _ => 0) (fun _ => 0) (fun _ => 0) (fun _ => 0) (fun _ => 0) (fun _ => 0) (fun _ => 0) 3 = some rB ∧ f_X4_layRuns N 3 0 (fun _ => 0) (fun _ => 0) (fun _ => 0) (fun _ => 0) (fun _ => 0) = some rM ∧ f_L_law_L23 N L xs 600 0 rB.1 rB.2.1 rB.2.2.1 rB.2.2.2.1 rB.2.2.2.2.1 rB.2.2.2.2.2.1 rB.2.2.2.2.2.2.1 rB.2.2.2.2.2.2.2.1 rB.2.2.2.2.2.2.2.2 0 (fun _ => 0) (fun _ => 0) (fun _ => 0) (fun _ => 0) 0 0 (fun _ => 0) (fun _ => 0) 0 3 rM.1 0 0 0 0 0 (fun _ => 0) (fun _ => 0) rM.2.1 rM.2.2.1 rM.2.2.2.1 rM.2.2.2.2 (fun _ => 0) (fun _ => 0) (fun _ => 0) (fun _ => 0) (fun _ => 0) = some 1 := by
  obtain ⟨N, hN⟩ : ∃ N : Nat, 50000 < N := ⟨50001, by omega⟩
  obtain ⟨g1, e1, f1⟩ := fill_eq (N := N) (n := 16) (by decide) (by omega) (fun _ => 0) 0
  have hC : Cells 3 (fun _ => 0) (fun _ => 0) g1 := zero_cells (by omega) (by omega) (fun c hc => ⟨rfl, rfl, f1 c hc⟩)
  obtain ⟨rc', fs', st', ln', su', rr', cr', mrn', mfi', mle', mst', msu', d1, d2, d3⟩ := draw_both hC (N := N) (by omega) 0 (fun _ => 0) (fun _ => 0) (fun _ => 0) (fun _ => 0) (fun _ => 0) (fun _ => 0) 0 (fun _ => 0) (fun _ => 0) (fun _ => 0) (fun _ => 0)
  have d1' : f_X0_findRuns N 3 0 g1 (fun _ => 0) (fun _ => 0) (fun _ => 0) (fun _ => 0) (fun _ => 0) (fun _ => 0) = some (rc', fs', st', ln', su', rr', cr') := d1
  refine ⟨N, (3, rc', g1, fs', st', ln', su', rr', cr'), (mrn', mfi', mle', mst', msu'), ?_, d2, law_L xs L hL hN 600 (v := 0) (by omega) (by omega) d3⟩
  rw [f_X0_clear, e1, Option.bind_some, d1', Option.bind_some]
