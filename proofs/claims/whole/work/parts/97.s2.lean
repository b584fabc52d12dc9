/-! the two boards hold the same: answers, rules -/
section CALLS3
variable {size rc msz mrn : Int32} {g fs st ln su rr cr mba mgi mfi mle mst msu : Nat → Int32}
theorem most_cases (p : Int32) : (f_X4_in p 1 5 = 0 ∧ (p < 1 ∨ (¬ p < 1 ∧ ¬ p ≤ 5))) ∨ ∃ j : Nat, 1 ≤ j ∧ j ≤ 5 ∧ p = nI j ∧ f_X4_in p 1 5 = 1 ∧ ¬ p < 1 ∧ p ≤ 5 := by
  rcases i_cases p with h | ⟨j, hj, rfl⟩
  · exact Or.inl ⟨in_neg h 1 (by decide) _, Or.inl (lt_nI_neg h 1 (by decide))⟩
  · have hin : f_X4_in (nI j) 1 5 = b01 (decide (1 ≤ j) && decide (j ≤ 5)) := in_nI (a := 1) (b := 5) hj (by decide) (by decide)
    by_cases q1 : 1 ≤ j
    · by_cases q : j ≤ 5
      · exact Or.inr ⟨j, q1, q, rfl, by rw [hin, decide_eq_true q1, decide_eq_true q]; rfl, nI_nlt (a := j) (b := 1) q1 hj, nI_le (b := 5) q (by decide)⟩
      · exact Or.inl ⟨by rw [hin, decide_eq_false q, Bool.and_false]; rfl, Or.inr ⟨nI_nlt (a := j) (b := 1) q1 hj, nI_ge (a := 5) (by omega) hj⟩⟩
    · exact Or.inl ⟨by rw [hin, decide_eq_false q1, Bool.false_and]; rfl, Or.inl (nI_lt (b := 1) (by omega) (by decide))⟩
theorem answers_both (hI : INV size rc g fs st ln su rr cr msz mrn mba mgi mfi mle mst msu) {N : Nat} (hN : 50000 < N) (mth p bc : Int32) (bl td fi fa : Nat → Int32) (ou : Nat → Int64) (mmy mdf mgu : Int32) (mtr mdi mfa : Nat → Int32) : ∃ (k ans bc' : Int32) (bl' td' fi' fa' : Nat → Int32) (ou' : Nat → Int64) (mmy' mdf' mgu' : Int32) (mtr' mdi' mfa' : Nat → Int32), f_L_answers N size rc g fs st ln su rr cr bc bl td fi fa ou p = some (k, bc', bl', td', fi', fa', ou') ∧ f_X4_answers N mth msz mrn mmy mdf mgu mba mgi mfi mle mst msu mtr mdi mfa p = some (ans, k, mmy', mdf', mgu', mtr', mdi', mfa') ∧ (k = 0 → ou' 0 = ans.toInt64) := by
  obtain ⟨sz, rs, rfl, rfl, hC, h1, h2, hR, hV, hsu⟩ := id hI
  rcases most_cases p with ⟨r1, r2⟩ | ⟨mo, m1, m5, rfl, r1, r2, r3⟩
  · have e3 : f_X3_answers N (nI sz) rc g fs st ln su rr cr bc bl td fi fa p = some (.inr (1, bc, bl, td, fi, fa)) := by
      rcases r2 with r2 | ⟨r2, r3⟩
      · simp only [f_X3_answers, jn_p, if_pos r2]
      · simp only [f_X3_answers, jn_p, if_neg r2, if_neg r3]
    refine ⟨1, 0, bc, bl, td, fi, fa, ou, mmy, mdf, mgu, mtr, mdi, mfa, ?_, ?_, fun q => absurd q one_ne0⟩
    · rw [f_L_answers, e3, Option.bind_some, sm_inr]; rfl
    · simp only [f_X4_answers, jn_p, r1, f_X4_goesWell, if_true, if_neg one_ne0]
  · obtain ⟨bc', bl', mmy', mtr', ret, td', fi', fa', mdf', mgu', mdi', mfa', q1, q2, -, -⟩ := find_both hC h1 h2 hR hV (fun r hr => (hsu r hr).1) hN (show 0 < mo by omega) m5 bc bl td fi fa mmy mdf mgu mtr mdi mfa
    refine ⟨0, ret, bc', bl', td', fi', fa', vp_updL ou ((0 : Int32)).toNatClampNeg ((ret : Int32).toInt64), mmy', mdf', mgu', mtr', mdi', mfa', ?_, ?_, fun _ => rfl⟩
    · simp only [f_L_answers, f_X3_answers, jn_p, if_neg r2, if_pos r3, q1, Option.bind_some, sm_inl]
    · simp only [f_X4_answers, jn_p, r1, f_X4_goesWell, if_true, if_neg one_ne0, q2, Option.bind_some]
theorem allL_both (hI : INV size rc g fs st ln su rr cr msz mrn mba mgi mfi mle mst msu) {N : Nat} (hN : 50000 < N) (mth bc : Int32) (bl td fi : Nat → Int32) (ou : Nat → Int64) (mmy : Int32) (mtr mdi : Nat → Int32) : ∃ (k ans bc' : Int32) (bl' td' fi' : Nat → Int32) (ou' : Nat → Int64) (mmy' : Int32) (mtr' mdi' : Nat → Int32), f_L_answersByAll N size rc g fs st ln su bc bl td fi ou = some (k, bc', bl', td', fi', ou') ∧ f_X4_answersByAll N mth msz mrn mmy mba mgi mfi mle mst msu mtr mdi = some (ans, k, mmy', mtr', mdi') ∧ (k = 0 → ou' 0 = ans.toInt64) := by
  obtain ⟨sz, rs, rfl, rfl, hC, h1, h2, hR, hV, hsu⟩ := id hI
  rcases all_both hC h1 h2 hV (fun r hr => (hsu r hr).1) hN bc bl td fi mth mmy mtr mdi with ⟨x, bc', bl', td', fi', mmy', mtr', mdi', q1, q2⟩ | ⟨mmy', mtr', mdi', q1, q2⟩
  · refine ⟨0, x, bc', bl', td', fi', vp_updL ou ((0 : Int32)).toNatClampNeg ((x : Int32).toInt64), mmy', mtr', mdi', ?_, q2, fun _ => rfl⟩
    rw [f_L_answersByAll, q1, Option.bind_some, sm_inl]
  · refine ⟨1, 0, bc, bl, td, fi, ou, mmy', mtr', mdi', ?_, q2, fun q => absurd q one_ne0⟩
    rw [f_L_answersByAll, q1, Option.bind_some, sm_inr]; rfl
theorem mend_both (hI : INV size rc g fs st ln su rr cr msz mrn mba mgi mfi mle mst msu) {N : Nat} (hN : 50000 < N) (mth bc : Int32) (bl td fi fa : Nat → Int32) (ou : Nat → Int64) (mmy mdf mgu : Int32) (mtr mdi mfa : Nat → Int32) : ∃ (k ans : Int32) (g' : Nat → Int32) (bc' : Int32) (bl' td' fi' fa' : Nat → Int32) (ou' : Nat → Int64) (mmy' mdf' mgu' : Int32) (mgi' mtr' mdi' mfa' : Nat → Int32), f_L_mend N size rc g fs st ln su rr cr bc bl td fi fa ou = some (k, g', bc', bl', td', fi', fa', ou') ∧ f_X4_mend N mth msz mrn mmy mdf mgu mba mgi mfi mle mst msu mtr mdi mfa = some (ans, k, mmy', mdf', mgu', mgi', mtr', mdi', mfa') ∧ (k = 0 → ou' 0 = ans.toInt64) ∧ INV size rc g' fs st ln su rr cr msz mrn mba mgi' mfi mle mst msu := by
  obtain ⟨sz, rs, rfl, rfl, hC, h1, h2, hR, hV, hsu⟩ := id hI
  obtain ⟨bc', bl', mmy', mtr', ret, td', fi', fa', mdf', mgu', mdi', mfa', q1, q2, q3, q4⟩ := find_both hC h1 h2 hR hV (fun r hr => (hsu r hr).1) hN (mo := 2) (by omega) (by omega) bc bl td fi fa mmy mdf mgu mtr mdi mfa
  have q1' : f_X2_find N (nI sz) rc g fs st ln su rr cr bc bl td fi fa 2 = some (ret, bc', bl', td', fi', fa') := q1
  have q2' : f_X4_attempt N (nI sz) mrn mmy mdf mgu mba mgi mfi mle mst msu mtr mdi mfa 2 = some (ret, mmy', mdf', mgu', mtr', mdi', mfa') := q2
  rcases q3 with ⟨q3, q5⟩ | ⟨q3, v, hv, q5⟩
  · have e3 : f_X3_mend N (nI sz) rc g fs st ln su rr cr bc bl td fi fa = some (.inr (2, g, bc', bl', td', fi', fa')) := by
      simp only [f_X3_mend, q1', Option.bind_some, if_pos q5]
    refine ⟨1, 0, g, bc', bl', td', fi', fa', ou, mmy', mdf', mgu', mgi, mtr', mdi', mfa', ?_, ?_, fun q => absurd q one_ne0, hI⟩
    · rw [f_L_mend, e3, Option.bind_some, sm_inr]; rfl
    · have hg1 : ¬ mgu' = 0 := by rw [q3]; exact one_ne0
      simp only [f_X4_mend, q2', Option.bind_some, jn_p, if_neg hg1, f_X4_goesWell, if_true, if_neg one_ne0]
  · have hne : ¬ ret = -1 := by rw [q5]; exact nI_nneg1 (by omega)
    by_cases hv2 : v = 2
    · subst hv2
      have hle : (2 : Int32) ≤ ret := by rw [q5]; exact nI_le (a := 2) (b := 2) (by omega) (by decide)
      obtain ⟨u, u16, uB, ⟨e, he, ue⟩, u1, u2, u3, u4⟩ := q4 q5 rfl
      have hin : inR mdf' 16 := by rw [u4]; exact inR_in (by decide) u16
      have hcl : mdf'.toNatClampNeg = u := by rw [u4]; exact nI_clamp (by omega)
      have hfu : f_X2_firstUnlike N fi' fa' = some (nI u) := firstUnlike_L fi' fa' u16 u2 u 0 N (Nat.zero_add _) (by omega) u3
      have hput : f_X0_putGiven g (nI u) (f_X2_firstAnswerAt fa' (nI u)) = upd g u (fa' u) := by
        rw [f_X0_putGiven, f_X2_firstAnswerAt, at_in _ (by decide) u16, put_in _ _ (by decide) u16]
      have hu1 : ¬ nI u = -1 := nI_nneg1 (by omega)
      have e3 : f_X3_mend N (nI sz) rc g fs st ln su rr cr bc bl td fi fa = some (.inl (nI u, upd g u (fa' u), bc', bl', td', fi', fa')) := by
        simp only [f_X3_mend, q1', Option.bind_some, if_neg hne, if_pos hle, hfu, if_neg hu1, hput]
      have hbk : blk sz mba mgi u = true := ((bp_mem (blk sz mba mgi) 16 u).mp uB).2
      have hop : opn sz mba u = true := by
        simp only [blk, Bool.and_eq_true] at hbk; exact hbk.1
      have hmu := opn_mba hop
      have hcu : isC sz u = true := by
        simp only [opn, Bool.and_eq_true] at hop; exact hop.1
      refine ⟨0, nI u, upd g u (fa' u), bc', bl', td', fi', fa', vp_updL ou ((0 : Int32)).toNatClampNeg ((nI u : Int32).toInt64), mmy', mdf', mgu', upd mgi u (mfa' u), mtr', mdi', mfa', ?_, ?_, fun _ => rfl, sz, rs, rfl, rfl, ⟨hC.1, fun x hx => ?_⟩, h1, h2, hR, hV, hsu⟩
      · rw [f_L_mend, e3, Option.bind_some, sm_inl]
      · simp only [f_X4_mend, q2', Option.bind_some, jn_p, if_pos q3, f_X4_goesWell, if_true, if_neg one_ne0, if_pos hle, gd_t hin, hcl]
        rw [u4]
      · by_cases hq : x = u
        · rw [hq, upd_eq, upd_eq, hmu, if_neg zero_ne1]
          refine ⟨Or.inl rfl, ⟨e, he, by rw [← u1, ue]⟩, fun q => absurd q zero_ne1, fun q => (by rw [hcu] at q; cases q), u1⟩
        · rw [upd_ne _ _ hq, upd_ne _ _ hq]; exact hC.2 x hx
    · have hle : ¬ (2 : Int32) ≤ ret := by rw [q5]; exact nI_ge (a := v) (b := 2) (by omega) (by decide)
      have e3 : f_X3_mend N (nI sz) rc g fs st ln su rr cr bc bl td fi fa = some (.inl (-1, g, bc', bl', td', fi', fa')) := by
        simp only [f_X3_mend, q1', Option.bind_some, if_neg hne, if_neg hle]
      refine ⟨0, -1, g, bc', bl', td', fi', fa', vp_updL ou ((0 : Int32)).toNatClampNeg (((-1) : Int32).toInt64), mmy', mdf', mgu', mgi, mtr', mdi', mfa', ?_, ?_, fun _ => rfl, hI⟩
      · rw [f_L_mend, e3, Option.bind_some, sm_inl]
      · simp only [f_X4_mend, q2', Option.bind_some, jn_p, if_pos q3, f_X4_goesWell, if_true, if_neg one_ne0, if_neg hle]
theorem level_both (hI : INV size rc g fs st ln su rr cr msz mrn mba mgi mfi mle mst msu) {N : Nat} (hN : 50000 < N) (mth tk gr mhs mlv : Int32) (se sr mca : Nat → Int32) : ∃ (ans tk' gr' : Int32) (se' sr' : Nat → Int32) (mhs' mlv' : Int32) (mca' : Nat → Int32), f_X3_level N size rc g fs st ln su tk gr se sr = some (ans, tk', gr', se', sr') ∧ f_X4_level N mth msz mrn mhs mlv mba mgi mfi mle mst msu mca = some (ans, 0, mhs', mlv', mca') := by
  obtain ⟨sz, rs, rfl, rfl, hC, h1, h2, hR, hV, hsu⟩ := id hI
  obtain ⟨tk', gr', mhs', se', mca', sr', q1, q2, q3⟩ := solve_both hC h1 h2 hV hsu hN (last := 3) (by omega) tk gr mhs mlv se sr mca
  have q1' : f_X1_solve N (nI sz) rc g fs st ln su tk gr se sr 3 = some (tk', gr', se', sr') := q1
  have q2' : f_X4_solve N (nI sz) mrn mhs mlv mba mgi mfi mle mst msu mca 3 = some (mhs', gr', mca') := q2
  have q4 : f_X1_isSolved N (nI sz) g se' = some (b01 (sol sz mba se' 16 0)) := hC.solved_eq q3 16 0 N (by omega) (by omega)
  have q5 : f_X4_level_L12 0 (nI sz) mhs' gr' mba mca' N 0 = some ((if sol sz mba mca' 16 0 = true then gr' else -1), 0, mhs', gr', mca') := hC.level_eq 0 mhs' gr' mca' 16 0 N (by omega) (by omega)
  rw [← sol_congr q3 16 0 (by omega)] at q5
  refine ⟨(if sol sz mba se' 16 0 = true then gr' else -1), tk', gr', se', sr', mhs', gr', mca', ?_, ?_⟩
  · rw [f_X3_level, q1', Option.bind_some, q4, Option.bind_some]
    cases sol sz mba se' 16 0
    · rw [if_pos b01_f]; rfl
    · rw [if_neg (show ¬ b01 true = 0 from one_ne0)]; rfl
  · rw [f_X4_level, q2', Option.bind_some]; exact q5
theorem candidates_both (hI : INV size rc g fs st ln su rr cr msz mrn mba mgi mfi mle mst msu) {N : Nat} (hN : 50000 < N) (mth p1 p2 tk gr mhs mlv : Int32) (se sr mca : Nat → Int32) (ou : Nat → Int64) : ∃ (k ans tk' gr' : Int32) (se' sr' : Nat → Int32) (ou' : Nat → Int64) (mhs' mlv' : Int32) (mca' : Nat → Int32), f_L_candidates N size rc g fs st ln su tk gr se sr ou p1 p2 = some (k, tk', gr', se', sr', ou') ∧ f_X4_candidates N mth msz mrn mhs mlv mba mgi mfi mle mst msu mca p1 p2 = some (ans, k, mhs', mlv', mca') ∧ (k = 0 → ou' 0 = ans.toInt64) := by
  obtain ⟨sz, rs, rfl, rfl, hC, h1, h2, hR, hV, hsu⟩ := id hI
  have two0 : ¬ (2 : Int32) = 0 := by decide
  rcases cell_cases hC.1.2 p1 with ⟨e1, e2⟩ | ⟨c, rfl, hc, e1, e2⟩
  · refine ⟨1, 0, tk, gr, se, sr, ou, mhs, mlv, mca, ?_, ?_, fun q => absurd q one_ne0⟩
    · rw [f_L_candidates, f_X3_candidates, e1, Option.bind_some, sm_inr, Option.bind_some, sm_inr]; rfl
    · simp only [f_X4_candidates, jn_p, e2, f_X4_goesWell, if_true, if_neg one_ne0]
  · have hc16 := (isC_lt hc).1
    have hin : inR (nI c) 16 := inR_in (by decide) hc16
    have hcl : (nI c).toNatClampNeg = c := nI_clamp (by omega)
    rcases rng_cases 3 (by decide) p2 with ⟨r1, r2⟩ | ⟨last, hl3, rfl, r1, r2, r3⟩
    · have r1' : f_X4_in p2 0 3 = 0 := r1
      have e3 : f_X3_candidates N (nI sz) rc g fs st ln su tk gr se sr (nI c) p2 = some (.inr (1, tk, gr, se, sr)) := by
        rcases r2 with r2 | ⟨r2, r3⟩
        · simp only [f_X3_candidates, e1, Option.bind_some, sm_inl, jn_p, if_pos r2]
        · have r3' : ¬ p2 ≤ (3 : Int32) := r3
          simp only [f_X3_candidates, e1, Option.bind_some, sm_inl, jn_p, if_neg r2, if_neg r3']
      refine ⟨2, 0, tk, gr, se, sr, ou, mhs, mlv, mca, ?_, ?_, fun q => absurd q two0⟩
      · rw [f_L_candidates, e3, Option.bind_some, sm_inr]; rfl
      · simp only [f_X4_candidates, jn_p, e2, if_neg one_ne0, r1', if_true, f_X4_goesWell, if_neg two0]
    · have r1' : f_X4_in (nI last) 0 3 = 1 := r1
      have r3' : nI last ≤ (3 : Int32) := r3
      obtain ⟨tk', gr', mhs', se', mca', sr', q1, q2, q3⟩ := solve_both hC h1 h2 hV hsu hN hl3 tk gr mhs mlv se sr mca
      have hs : f_X1_setAt se' (nI c) = mca' c := by rw [f_X1_setAt, at_in _ (by decide) hc16, (q3 c hc16).1]
      refine ⟨0, mca' c, tk', gr', se', sr', vp_updL ou ((0 : Int32)).toNatClampNeg ((mca' c : Int32).toInt64), mhs', gr', mca', ?_, ?_, fun _ => rfl⟩
      · simp only [f_L_candidates, f_X3_candidates, e1, Option.bind_some, sm_inl, jn_p, if_neg r2, if_pos r3', q1, hs]
      · simp only [f_X4_candidates, jn_p, e2, if_neg one_ne0, r1', if_true, f_X4_goesWell, q2, Option.bind_some, gd_t hin, hcl]
end CALLS3
section HINT
variable {sz : Nat} {mba mgi g : Nat → Int32} {rs : Rn} {rc mrn : Int32} {fs st ln mfi mst mle su msu : Nat → Int32}
theorem find_step (hC : Cells sz mba mgi g) (h1 : RT rs rc fs st ln) (h2 : RT rs mrn mfi mst mle) (hV : VR sz mba rs) (hsu : ∀ r, r < rs.length → su r = msu r ∧ ∃ v : Nat, v ≤ 45 ∧ su r = nI v) {N last : Nat} (hN : 50000 < N) (hl3 : last ≤ 3) (tk gr mhs mlv : Int32) (se sr mca : Nat → Int32) :
    ∃ (F tk' gr' mhs' : Int32) (se' mca' sr' : Nat → Int32), f_X1_solve N (nI sz) rc g fs st ln su tk gr se sr (nI last) = some (tk', gr', se', sr') ∧ f_X1_firstFound N (nI sz) g se' = some F ∧ f_X4_find N (nI sz) mrn mhs mlv mba mgi mfi mle mst msu mca (nI last) = some (F, mhs', gr', mca') := by
  obtain ⟨tk', gr', mhs', se', mca', sr', q1, q2, q3⟩ := solve_both hC h1 h2 hV hsu hN hl3 tk gr mhs mlv se sr mca
  have q4 : f_X1_firstFound N (nI sz) g se' = some (ff sz mba mgi se' 16 0) := hC.found_eq q3 16 0 N (by omega) (by omega)
  have q5 : f_X4_find_L7 (nI sz) mhs' gr' mba mgi mca' N 0 = some (ff sz mba mgi mca' 16 0, mhs', gr', mca') := hC.find_eq mhs' gr' mca' 16 0 N (by omega) (by omega)
  rw [← ff_congr q3 16 0 (by omega)] at q5
  refine ⟨ff sz mba mgi se' 16 0, tk', gr', mhs', se', mca', sr', q1, q4, ?_⟩
  rw [f_X4_find, q2, Option.bind_some]; exact q5
theorem hintR_L (hC : Cells sz mba mgi g) (h1 : RT rs rc fs st ln) (h2 : RT rs mrn mfi mst mle) (hV : VR sz mba rs) (hsu : ∀ r, r < rs.length → su r = msu r ∧ ∃ v : Nat, v ≤ 45 ∧ su r = nI v) {N : Nat} (hN : 50000 < N) (mth : Int32) : ∀ (k last n nm : Nat) (tk gr mhs mlv : Int32) (se sr mca : Nat → Int32), last + k = 4 → k < n → k < nm →
    ∃ (v tk' gr' : Int32) (se' sr' : Nat → Int32) (mhs' mlv' : Int32) (mca' : Nat → Int32), f_X1_solveToHint_L2 N (nI sz) rc g fs st ln su n (nI last) tk gr se sr = some (v, tk', gr', se', sr') ∧ f_X4_hintRules_L7 N mth (nI sz) mrn mba mgi mfi mle mst msu nm (nI last) mhs mlv mca = some (v, mth, mhs', mlv', mca')
  | 0, last, n, nm, tk, gr, mhs, mlv, se, sr, mca, hl, hn, hnm => by
    obtain ⟨m, rfl⟩ : ∃ m, n = m + 1 := ⟨n - 1, by omega⟩
    obtain ⟨mm, rfl⟩ : ∃ mm, nm = mm + 1 := ⟨nm - 1, by omega⟩
    obtain rfl : last = 4 := by omega
    rw [f_X1_solveToHint_L2.eq_2, f_X4_hintRules_L7.eq_2, if_pos (by decide), if_pos (by decide)]
    exact ⟨-1, tk, gr, se, sr, mhs, mlv, mca, rfl, rfl⟩
  | k + 1, last, n, nm, tk, gr, mhs, mlv, se, sr, mca, hl, hn, hnm => by
    obtain ⟨m, rfl⟩ : ∃ m, n = m + 1 := ⟨n - 1, by omega⟩
    obtain ⟨mm, rfl⟩ : ∃ mm, nm = mm + 1 := ⟨nm - 1, by omega⟩
    have h3 : ¬ (3 : Int32) < nI last := nI_nlt (a := 3) (by omega) (by decide)
    obtain ⟨F, tk1, gr1, mhs1, se1, mca1, sr1, q1, q2, q3⟩ := find_step hC h1 h2 hV hsu hN (show last ≤ 3 by omega) tk gr mhs mlv se sr mca
    rw [f_X1_solveToHint_L2.eq_2, f_X4_hintRules_L7.eq_2, if_neg h3, if_neg h3, q1, q3, Option.bind_some, Option.bind_some]
    dsimp only
    rw [q2, Option.bind_some]
    by_cases hF : F = -1
    · rw [if_pos hF, if_pos hF, nI_1]
      exact hintR_L hC h1 h2 hV hsu hN mth k (last + 1) m mm tk1 gr1 mhs1 gr1 se1 sr1 mca1 (by omega) (by omega) (by omega)
    · rw [if_neg hF, if_neg hF]
      exact ⟨nI last, tk1, gr1, se1, sr1, mhs1, gr1, mca1, rfl, rfl⟩
theorem hint_L (hC : Cells sz mba mgi g) (h1 : RT rs rc fs st ln) (h2 : RT rs mrn mfi mst mle) (hV : VR sz mba rs) (hsu : ∀ r, r < rs.length → su r = msu r ∧ ∃ v : Nat, v ≤ 45 ∧ su r = nI v) {N : Nat} (hN : 50000 < N) (mth : Int32) : ∀ (k last n nm : Nat) (tk gr mhs mlv : Int32) (se sr mca : Nat → Int32), last + k = 3 → k + 1 < n → k < nm →
    ∃ (x tk' gr' : Int32) (se' sr' : Nat → Int32) (mhs' mlv' : Int32) (mca' : Nat → Int32), ((f_X1_solveToHint_L2 N (nI sz) rc g fs st ln su n (nI last) tk gr se sr).bind fun x4 => (f_X1_firstFound N (nI sz) g x4.2.2.2.1).bind fun x12 => some (x12, x4.2.1, x4.2.2.1, x4.2.2.2.1, x4.2.2.2.2)) = some (x, tk', gr', se', sr') ∧ ((f_X4_find N (nI sz) mrn mhs mlv mba mgi mfi mle mst msu mca (nI last)).bind fun x9 => f_X4_hint_L13 N mth (nI sz) mrn mba mgi mfi mle mst msu nm (nI last) x9.1 x9.2.1 x9.2.2.1 x9.2.2.2) = some (x, mth, mhs', mlv', mca')
  | k, last, n, nm, tk, gr, mhs, mlv, se, sr, mca, hl, hn, hnm => by
    obtain ⟨m, rfl⟩ : ∃ m, n = m + 1 := ⟨n - 1, by omega⟩
    obtain ⟨mm, rfl⟩ : ∃ mm, nm = mm + 1 := ⟨nm - 1, by omega⟩
    have h3 : ¬ (3 : Int32) < nI last := nI_nlt (a := 3) (by omega) (by decide)
    obtain ⟨F, tk1, gr1, mhs1, se1, mca1, sr1, q1, q2, q3⟩ := find_step hC h1 h2 hV hsu hN (show last ≤ 3 by omega) tk gr mhs mlv se sr mca
    have eC : f_X1_solveToHint_L2 N (nI sz) rc g fs st ln su (m + 1) (nI last) tk gr se sr = if F = -1 then f_X1_solveToHint_L2 N (nI sz) rc g fs st ln su m (nI (last + 1)) tk1 gr1 se1 sr1 else some (nI last, tk1, gr1, se1, sr1) := by
      rw [f_X1_solveToHint_L2.eq_2, if_neg h3, q1, Option.bind_some]
      dsimp only
      rw [q2, Option.bind_some, nI_1]
    rw [q3, Option.bind_some, eC]
    dsimp only
    rw [f_X4_hint_L13.eq_2]
    by_cases hF : F = -1
    · rw [if_pos hF, if_pos hF]
      match k, hl, hn, hnm with
      | 0, hl, hn, hnm =>
        obtain ⟨m2, rfl⟩ : ∃ m2, m = m2 + 1 := ⟨m - 1, by omega⟩
        obtain rfl : last = 3 := by omega
        rw [f_X1_solveToHint_L2.eq_2, if_pos (by decide), Option.bind_some, if_pos (by decide)]
        dsimp only
        rw [q2, Option.bind_some]
        exact ⟨F, tk1, gr1, se1, sr1, mhs1, gr1, mca1, rfl, rfl⟩
      | k + 1, hl, hn, hnm =>
        rw [if_neg (show ¬ (3 : Int32) ≤ nI last from nI_ge (b := 3) (by omega) (by decide)), nI_1]
        exact hint_L hC h1 h2 hV hsu hN mth k (last + 1) m mm tk1 gr1 mhs1 gr1 se1 sr1 mca1 (by omega) (by omega) (by omega)
    · rw [if_neg hF, if_neg hF, Option.bind_some]
      dsimp only
      rw [q2, Option.bind_some]
      exact ⟨F, tk1, gr1, se1, sr1, mhs1, gr1, mca1, rfl, rfl⟩
end HINT
section CALLS4
variable {size rc msz mrn : Int32} {g fs st ln su rr cr mba mgi mfi mle mst msu : Nat → Int32}
theorem hint_both (hI : INV size rc g fs st ln su rr cr msz mrn mba mgi mfi mle mst msu) {N : Nat} (hN : 50000 < N) (mth tk gr mhs mlv : Int32) (se sr mca : Nat → Int32) : ∃ (ans tk' gr' : Int32) (se' sr' : Nat → Int32) (mhs' mlv' : Int32) (mca' : Nat → Int32), f_X3_hint N size rc g fs st ln su tk gr se sr = some (ans, tk', gr', se', sr') ∧ f_X4_hint N mth msz mrn mhs mlv mba mgi mfi mle mst msu mca = some (ans, 0, mhs', mlv', mca') := by
  obtain ⟨sz, rs, rfl, rfl, hC, h1, h2, hR, hV, hsu⟩ := id hI
  obtain ⟨x, tk', gr', se', sr', mhs', mlv', mca', q1, q2⟩ := hint_L hC h1 h2 hV hsu hN 0 2 1 N N tk gr mhs mlv se sr mca (by omega) (by omega) (by omega)
  exact ⟨x, tk', gr', se', sr', mhs', mlv', mca', q1, q2⟩
theorem hintRules_both (hI : INV size rc g fs st ln su rr cr msz mrn mba mgi mfi mle mst msu) {N : Nat} (hN : 50000 < N) (mth tk gr mhs mlv : Int32) (se sr mca : Nat → Int32) : ∃ (ans tk' gr' : Int32) (se' sr' : Nat → Int32) (mhs' mlv' : Int32) (mca' : Nat → Int32), f_X3_hintRules N size rc g fs st ln su tk gr se sr = some (ans, tk', gr', se', sr') ∧ f_X4_hintRules N mth msz mrn mhs mlv mba mgi mfi mle mst msu mca = some (ans, 0, mhs', mlv', mca') := by
  obtain ⟨sz, rs, rfl, rfl, hC, h1, h2, hR, hV, hsu⟩ := id hI
  obtain ⟨v, tk', gr', se', sr', mhs', mlv', mca', q1, q2⟩ := hintR_L hC h1 h2 hV hsu hN 0 3 1 N N tk gr mhs mlv se sr mca (by omega) (by omega) (by omega)
  have q1' : f_X1_solveToHint N (nI sz) rc g fs st ln su tk gr se sr = some (v, tk', gr', se', sr') := q1
  refine ⟨v, tk', gr', se', sr', mhs', mlv', mca', ?_, q2⟩
  rw [f_X3_hintRules, q1', Option.bind_some]
end CALLS4
