/-! candidates: what the law asks of them holds -/
section CSO
variable {size rc : Int32} {g fs st ln su rr cr : Nat → Int32}
theorem fS_given {sz : Nat} {mba mgi : Nat → Int32} {c d : Nat} (ho : opn sz mba c = true) (hd : d ≤ 9) (hd0 : d ≠ 0) (e : mgi c = nI d) : fS sz mba mgi c = nI (2 ^ d) := by
  have h0 : ¬ mgi c = 0 := by rw [e]; exact fun q => hd0 ((nI_zero hd).mp q)
  rw [fS, if_pos ho, if_neg h0, e, F7 ⟨d, by omega⟩]
theorem sg_facts {x : Int32} (h : ∃ v : Nat, v < 1024 ∧ x = nI v) (hs : sg x = true) : ¬ x = 0 ∧ x &&& (x - 1) = 0 := by
  obtain ⟨v, hv, rfl⟩ := h
  refine F11 ⟨v, hv⟩ fun q => ?_
  simp only [sg] at hs
  rw [decide_eq_true q] at hs
  cases hs
/-- a board that the rules solve, with something taken away, has a hint -/
theorem solved_hint {sz : Nat} {mba mgi g cs : Nat → Int32} (hC : Cells sz mba mgi g) (h1 : ∀ c, c < 16 → ∃ v : Nat, v < 1024 ∧ cs c = nI v) (h2 : SUB cs (fS sz mba mgi)) (h3 : msr cs 16 < msr (fS sz mba mgi) 16) (hs : sol sz mba cs 16 0 = true) (hf : ff sz mba mgi cs 16 0 = -1) : False := by
  have hnb : ∀ c, c < 16 → (blk sz mba mgi c && sg (cs c)) = false := by
    rcases ff_spec (sz := sz) (mba := mba) (mgi := mgi) cs 16 0 with ⟨-, q⟩ | ⟨u, -, u2, u3, -⟩
    · exact fun c hc => q c (Nat.zero_le _) (by omega)
    · rw [hf] at u3
      exact absurd u3.symm (nI_nneg1 (by omega))
  have hEq : ∀ c, c < 16 → cs c = fS sz mba mgi c := by
    intro c hc
    have hsub := h2 c hc
    cases ho : opn sz mba c
    · have hz : fS sz mba mgi c = 0 := by rw [fS, ho, if_neg (by decide)]
      rw [hz] at hsub ⊢
      rw [← hsub]; simp
    · have hsg := sol_spec cs 16 0 hs c (Nat.zero_le _) (by omega) ho
      have hb := hnb c hc
      rw [hsg, Bool.and_true, blk, ho, Bool.true_and, decide_eq_false_iff_not] at hb
      obtain ⟨-, ⟨d, hd, e⟩, -⟩ := hC.2 c hc
      have hd0 : d ≠ 0 := fun q => hb (by rw [e, q]; rfl)
      rw [fS_given ho hd hd0 e] at hsub ⊢
      obtain ⟨v, hv, ev⟩ := h1 c hc
      have hne := (sg_facts (h1 c hc) hsg).1
      rw [ev] at hsub hne ⊢
      exact F12 ⟨v, hv⟩ ⟨d, by omega⟩ hsub hne
  have := msr_eq 16 hEq
  omega
set_option maxHeartbeats 8000000 in
theorem cand_so (hB : BD size rc g fs st ln su rr cr) {N : Nat} (hN : 50000 < N) (p tk gr : Int32) (se sr : Nat → Int32) : ∃ (tk' gr' : Int32) (se' sr' : Nat → Int32), f_L_areCandidatesSo N size rc g fs st ln su tk gr se sr p = some (1, tk', gr', se', sr') := by
  obtain ⟨sz, rs, mba, mgi, rfl, hC, h1, hR, hV, hsu⟩ := hB
  rcases digit_C (g := g) hC.1.2 p with ⟨d1, e1⟩ | ⟨c, rfl, hc, d1⟩
  · have ec : f_L_candidates N (nI sz) rc g fs st ln su tk gr se sr p 0 = some (-2, tk, gr, se, sr) := by
      simp only [f_L_candidates, f_X3_candidates, e1, Option.bind_some, sm_inr, if_true]
    refine ⟨tk, gr, se, sr, ?_⟩
    rw [f_L_areCandidatesSo, d1, Option.bind_some, ec, Option.bind_some, if_neg (show ¬ (0 : Int32) ≤ -2 from by decide)]
    simp only [jn_p, if_neg (show ¬ (-2 : Int32) = -1 from by decide), if_true]
  · have hc16 := (isC_lt hc).1
    obtain ⟨tk0, gr0, se0, sr0, c0⟩ := cand_0 (rc := rc) (fs := fs) (st := st) (ln := ln) (su := su) hC hN hc tk gr se sr
    obtain ⟨m1, ⟨d, hd9, m2⟩, -, -, m5⟩ := hC.2 c hc16
    rcases m1 with m1 | m1
    · have ho : opn sz mba c = true := by rw [opn, hc, decide_eq_true m1]; rfl
      have hg : g c = nI d := by rw [m5, m1, if_neg zero_ne1, m2]
      have h0d : (0 : Int32) ≤ nI d := nI_pos' (by omega)
      obtain ⟨cs1, cg1, s1⟩ := solve_C (last := 1) hC h1 hV hsu hN (by omega)
      obtain ⟨cs2, cg2, s2⟩ := solve_C (last := 2) hC h1 hV hsu hN (by omega)
      obtain ⟨cs3, cg3, s3⟩ := solve_C (last := 3) hC h1 hV hsu hN (by omega)
      obtain ⟨H, R, k1, k2, k3⟩ := hints_C hC hN s1 s2 s3
      obtain ⟨lvl, hlvl⟩ : ∃ lvl, lvl = (if sol sz mba cs3 16 0 = true then cg3 else -1) := ⟨_, rfl⟩
      obtain ⟨tk1, gr1, se1, sr1, e1⟩ := level_C hC hN s3 tk0 gr0 se0 sr0
      rw [← hlvl] at e1
      obtain ⟨tk2, gr2, se2, sr2, e2⟩ := k2 tk1 gr1 se1 sr1
      obtain ⟨tk3, gr3, se3, sr3, e3⟩ := k3 tk2 gr2 se2 sr2
      obtain ⟨tk4, gr4, se4, sr4, e4⟩ := cand_C hC.1.2 s3 (Nat.le_refl _) hc tk3 gr3 se3 sr3
      obtain ⟨tk5, gr5, se5, sr5, e5⟩ := cand_C hC.1.2 s1 (by omega) hc tk4 gr4 se4 sr4
      obtain ⟨tk6, gr6, se6, sr6, e6⟩ := cand_C hC.1.2 s1 (by omega) hc tk5 gr5 se5 sr5
      have e4' : f_L_candidates N (nI sz) rc g fs st ln su tk3 gr3 se3 sr3 (nI c) 3 = some (cs3 c, tk4, gr4, se4, sr4) := e4
      have e5' : f_L_candidates N (nI sz) rc g fs st ln su tk4 gr4 se4 sr4 (nI c) 1 = some (cs1 c, tk5, gr5, se5, sr5) := e5
      have e6' : f_L_candidates N (nI sz) rc g fs st ln su tk5 gr5 se5 sr5 (nI c) 1 = some (cs1 c, tk6, gr6, se6, sr6) := e6
      have fX : (nI d ≤ 0 → fS sz mba mgi c = 1022) ∧ (¬ nI d ≤ 0 → fS sz mba mgi c = 1 <<< (nI d &&& 31)) := by
        have hz : nI d ≤ 0 ↔ nI d = 0 := (nI_le0 hd9).trans (nI_zero hd9).symm
        rw [fS, if_pos ho, m2]
        exact ⟨fun q => if_pos (hz.mp q), fun q => if_neg (fun w => q (hz.mpr w))⟩
      have fA : cs1 c &&& fS sz mba mgi c = cs1 c := s1.2.1.1 c hc16
      have fB : cs3 c &&& (fS sz mba mgi c ^^^ (-1)) = 0 := (sub_iff _ _).mp (by rw [Int32.and_comm]; exact s3.2.1.1 c hc16)
      obtain ⟨lv, hlv, elv, hms⟩ := s3.2.1.2
      have fC1 : ¬ lvl < -1 := by
        rw [hlvl]
        cases sol sz mba cs3 16 0
        · rw [if_neg (by decide)]; decide
        · rw [if_pos rfl, elv]
          intro q
          exact nI_pos (n := lv) (by omega) (Int32.lt_trans q (by decide))
      have fC2 : ¬ 3 < lvl := by
        rw [hlvl]
        cases sol sz mba cs3 16 0
        · rw [if_neg (by decide)]; decide
        · rw [if_pos rfl, elv]
          exact nI_nlt (a := 3) hlv (by decide)
      have fE : lvl < 0 ∨ (¬ lvl < 0 ∧ ¬ cs3 c = 0 ∧ cs3 c &&& (cs3 c - 1) = 0) := by
        cases hs : sol sz mba cs3 16 0
        · left; rw [hlvl, hs, if_neg (by decide)]; decide
        · right
          refine ⟨?_, sg_facts (s3.1 c hc16) (sol_spec cs3 16 0 hs c (Nat.zero_le _) (by omega) ho)⟩
          rw [hlvl, hs, if_pos rfl, elv]; exact nI_pos (by omega)
      have fG : ff sz mba mgi cs3 16 0 = -1 → lvl < 1 := by
        intro hf
        cases hs : sol sz mba cs3 16 0
        · rw [hlvl, hs, if_neg (by decide)]; decide
        · by_cases hl0 : lv = 0
          · rw [hlvl, hs, if_pos rfl, elv, hl0]; decide
          · exact (solved_hint hC s3.1 s3.2.1.1 (hms hl0) hs hf).elim
      have hst : ∀ K : Int32 → Option (Int32 × Int32 × Int32 × (Nat → Int32) × (Nat → Int32)), (if nI d ≤ 0 then K 1022 else K (1 <<< (nI d &&& 31))) = K (fS sz mba mgi c) := fun K => by
        by_cases q : nI d ≤ 0
        · rw [if_pos q, fX.1 q]
        · rw [if_neg q, fX.2 q]
      have hjn : ∀ K : Int32 → Option (Int32 × Int32 × Int32 × (Nat → Int32) × (Nat → Int32)), (jn K fun k52 => if nI d ≤ 0 then k52 1022 else k52 (1 <<< (nI d &&& 31))) = K (fS sz mba mgi c) := fun K => hst K
      obtain ⟨X, hX⟩ : ∃ X, X = fS sz mba mgi c := ⟨_, rfl⟩
      rcases k1 with ⟨rfl, rfl, hf⟩ | ⟨u, last, cs, cg, l1, l3, rfl, sl, u16, rfl, ub, us⟩
      · refine ⟨tk6, gr6, se6, sr6, ?_⟩
        rw [f_L_areCandidatesSo, d1, Option.bind_some, c0, Option.bind_some, hg, if_pos h0d, hjn]
        rw [← hX] at fA fB ⊢
        have g1 := fG hf
        rcases fE with q | ⟨q, q1, q2⟩
        · simp only [if_true, e1, e2, e3, e4', e5', e6', Option.bind_some, jn_p, fA, fB, if_neg fC1, if_neg fC2, if_pos q, if_neg one_ne0, if_neg (show ¬ (0 : Int32) ≤ -1 from by decide), if_pos g1]
        · simp only [if_true, e1, e2, e3, e4', e5', e6', Option.bind_some, jn_p, fA, fB, if_neg fC1, if_neg fC2, if_neg q, if_neg q1, q2, if_neg one_ne0, if_neg (show ¬ (0 : Int32) ≤ -1 from by decide), if_pos g1]
      · have uo : opn sz mba u = true := by
          simp only [blk, Bool.and_eq_true] at ub; exact ub.1
        have uC : isC sz u = true := by
          simp only [opn, Bool.and_eq_true] at uo; exact uo.1
        have ug : g u = 0 := by
          simp only [blk, Bool.and_eq_true, decide_eq_true_eq] at ub
          rw [hC.g_open u16 uo]; exact ub.2
        obtain ⟨tk7, gr7, se7, sr7, e7⟩ := cand_C hC.1.2 sl l3 uC tk6 gr6 se6 sr6
        have d2 : f_L_digit (nI sz) g (nI u) = some 0 := by
          rcases digit_C (g := g) hC.1.2 (nI u) with ⟨-, w⟩ | ⟨c', w1, wc, w⟩
          · rw [(needCell_t hC.1.2 uC).1] at w; cases w
          · have h16 := (isC_lt wc).1
            have hc' := (nI_inj (a := u) (b := c') (by omega) (by omega)).mp w1
            rw [w, ← hc', ug]
        obtain ⟨t1, t2⟩ := sg_facts (sl.1 u u16) us
        have hu1 : ¬ nI u = -1 := nI_nneg1 (by omega)
        have hl1 : ¬ nI last = -1 := nI_nneg1 (by omega)
        have hl2 : ¬ nI last < 1 := nI_nlt (b := 1) l1 (by omega)
        have hl3 : ¬ 3 < nI last := nI_nlt (a := 3) l3 (by decide)
        have hu0 : (0 : Int32) ≤ nI u := nI_pos' (by omega)
        refine ⟨tk7, gr7, se7, sr7, ?_⟩
        rw [f_L_areCandidatesSo, d1, Option.bind_some, c0, Option.bind_some, hg, if_pos h0d, hjn]
        rw [← hX] at fA fB ⊢
        rcases fE with q | ⟨q, q1, q2⟩
        · simp only [if_true, e1, e2, e3, e4', e5', e6', e7, d2, Option.bind_some, jn_p, fA, fB, if_neg fC1, if_neg fC2, if_pos q, if_neg one_ne0, if_neg hu1, if_neg hl1, if_neg hl2, if_neg hl3, if_pos hu0, if_neg t1, t2]
        · simp only [if_true, e1, e2, e3, e4', e5', e6', e7, d2, Option.bind_some, jn_p, fA, fB, if_neg fC1, if_neg fC2, if_neg q, if_neg q1, q2, if_neg one_ne0, if_neg hu1, if_neg hl1, if_neg hl2, if_neg hl3, if_pos hu0, if_neg t1, t2]
    · have ho : opn sz mba c = false := by rw [opn, hc, m1]; rfl
      have hg : g c = -1 := by rw [m5, m1, if_pos rfl]
      have hfs : fS sz mba mgi c = 0 := by rw [fS, ho, if_neg (by decide)]
      refine ⟨tk0, gr0, se0, sr0, ?_⟩
      rw [f_L_areCandidatesSo, d1, Option.bind_some, c0, Option.bind_some, hg, hfs, if_neg (show ¬ (0 : Int32) ≤ -1 from by decide)]
      simp only [jn_p, if_true]
end CSO
