/-! two boards that are the same are alike -/
section ALIKE
variable {sz : Nat} {mba mgi g : Nat → Int32} {rs : Rn} {rc : Int32} {fs st ln su : Nat → Int32}
theorem digit_C (hs : sz ≤ 4) (p : Int32) : (f_L_digit (nI sz) g p = some (-2) ∧ f_X3_needCell (nI sz) p = some (.inr 3)) ∨ ∃ c : Nat, p = nI c ∧ isC sz c = true ∧ f_L_digit (nI sz) g p = some (g c) := by
  rcases cell_cases hs p with ⟨e1, -⟩ | ⟨c, rfl, hc, e1, -⟩
  · left
    refine ⟨?_, e1⟩
    simp only [f_L_digit, f_X3_digit, e1, Option.bind_some, sm_inr, if_true]
  · right
    refine ⟨c, rfl, hc, ?_⟩
    have hg : f_X0_givenAt g (nI c) = g c := at_in _ (by decide) (isC_lt hc).1
    simp only [f_L_digit, f_X3_digit, e1, Option.bind_some, sm_inl, hg]
theorem alike_95 (hs : sz ≤ 4) : ∀ (k i n : Nat), i + k = 9 → k < n → f_L_areAlike_L95 (nI sz) g (nI sz) g n 1 (nI i) = some 1
  | 0, i, n, hi, hn => by
    obtain ⟨m, rfl⟩ : ∃ m, n = m + 1 := ⟨n - 1, by omega⟩
    obtain rfl : i = 9 := by omega
    rw [f_L_areAlike_L95.eq_2, if_pos (by decide), gd_t (Or.inr rfl)]
  | k + 1, i, n, hi, hn => by
    obtain ⟨m, rfl⟩ : ∃ m, n = m + 1 := ⟨n - 1, by omega⟩
    rw [f_L_areAlike_L95.eq_2, if_neg (show ¬ (9 : Int32) ≤ nI i from nI_ge (b := 9) (by omega) (by decide)), if_neg one_ne0]
    obtain ⟨x, hx⟩ : ∃ x, f_L_digit (nI sz) g (((nI i / 3) * 4) + (nI i - nI i / 3 * 3)) = some x := by
      rcases digit_C (g := g) hs (((nI i / 3) * 4) + (nI i - nI i / 3 * 3)) with ⟨h, -⟩ | ⟨c, -, -, h⟩
      · exact ⟨_, h⟩
      · exact ⟨_, h⟩
    rw [hx, Option.bind_some, Option.bind_some]
    simp only [jn_p, if_true, nI_1]
    exact alike_95 hs k (i + 1) m (by omega) (by omega)
theorem alike_30 (h1 : RT rs rc fs st ln) (kk : _) : ∀ (k i n : Nat), i + k = rs.length → k < n → f_L_areAlike_L30 rc fs ln su rc fs ln su kk n 1 (nI i) = kk 1
  | 0, i, n, hi, hn => by
    obtain ⟨m, rfl⟩ : ∃ m, n = m + 1 := ⟨n - 1, by omega⟩
    have := h1.2.1
    have hr : f_X3_runs rc ≤ nI i := by rw [f_X3_runs, f_X0_countRuns, h1.1]; exact nI_le (by omega) (by omega)
    rw [f_L_areAlike_L30.eq_2, if_pos hr]
  | k + 1, i, n, hi, hn => by
    obtain ⟨m, rfl⟩ : ∃ m, n = m + 1 := ⟨n - 1, by omega⟩
    have h8 := h1.2.1
    have hr : ¬ f_X3_runs rc ≤ nI i := by rw [f_X3_runs, f_X0_countRuns, h1.1]; exact nI_ge (by omega) (by omega)
    have e1 : f_X3_needRun rc (nI i) = some (.inl ()) := by
      rcases run_cases h1 h1 (nI i) with ⟨e1, -⟩ | ⟨r, t, hir, h8', hr', e1, -⟩
      · exfalso
        have e : f_X0_hasRun rc (nI i) = 1 := by
          rw [h1.1]
          simp only [f_X0_hasRun, jn_p, if_neg (nI_pos (show i < 2 ^ 31 by omega)), if_neg (nI_ge (show i < rs.length by omega) (show rs.length < 2 ^ 31 by omega))]
        rw [f_X3_needRun, e, if_neg one_ne0] at e1
        cases e1
      · exact e1
    rw [f_L_areAlike_L30.eq_2, if_neg hr, if_neg one_ne0]
    simp only [f_X3_sumOf, f_X3_firstOf, f_X3_lengthOf, e1, Option.bind_some, sm_inl, jn_p, if_true, nI_1]
    exact alike_30 h1 kk k (i + 1) m (by omega) (by omega)
theorem alike_op {size : Int32} {rr cr : Nat → Int32} (hB : BD size rc g fs st ln su rr cr) {N : Nat} (hN : 50000 < N) : f_L_areAlike N size rc g fs ln su size rc g fs ln su = some 1 := by
  obtain ⟨sz, rs, mba, mgi, rfl, hC, h1, hR, hV, hsu⟩ := hB
  have h8 := h1.2.1
  have ho : f_X3_open N (nI sz) g = some (nI (cnt (opn sz mba) 0 16)) := by rw [f_X3_open, hC.countOpen (by omega)]; rfl
  rw [f_L_areAlike, ho, Option.bind_some, Option.bind_some]
  simp only [jn_p, if_true]
  refine Eq.trans (alike_30 (su := su) h1 (fun (v2_93 : Int32) => f_L_areAlike_L95 (nI sz) g (nI sz) g 11 v2_93 0) rs.length 0 10 (Nat.zero_add _) (by omega)) ?_
  exact alike_95 (g := g) hC.1.2 9 0 11 (by omega) (by omega)
end ALIKE
/-! solving by rules: what it comes to, whatever was solved before -/
theorem F11 : ∀ v : Fin 1024, ¬ f_X4_isSingle (nI v.1) = 0 → ¬ nI v.1 = 0 ∧ nI v.1 &&& (nI v.1 - 1) = 0 := by decide +kernel
theorem F12 : ∀ v : Fin 1024, ∀ d : Fin 10, nI v.1 &&& nI (2 ^ d.1) = nI v.1 → ¬ nI v.1 = 0 → nI v.1 = nI (2 ^ d.1) := by decide +kernel
theorem msr_eq {s t : Nat → Int32} : ∀ k, (∀ c, c < k → s c = t c) → msr s k = msr t k
  | 0, _ => rfl
  | k + 1, h => by rw [msr, msr, msr_eq k (fun c hc => h c (by omega)), h k (by omega)]
section RULES
variable {sz : Nat} {mba mgi g : Nat → Int32} {rs : Rn} {rc : Int32} {fs st ln su : Nat → Int32}
theorem ff_spec (se : Nat → Int32) : ∀ k i, (ff sz mba mgi se k i = -1 ∧ ∀ c, i ≤ c → c < i + k → (blk sz mba mgi c && sg (se c)) = false) ∨ ∃ u, i ≤ u ∧ u < i + k ∧ ff sz mba mgi se k i = nI u ∧ blk sz mba mgi u = true ∧ sg (se u) = true
  | 0, i => Or.inl ⟨rfl, fun c h1 h2 => by omega⟩
  | k + 1, i => by
    rw [ff]
    by_cases hq : (blk sz mba mgi i && sg (se i)) = true
    · rw [if_pos hq]
      rw [Bool.and_eq_true] at hq
      exact Or.inr ⟨i, Nat.le_refl _, by omega, rfl, hq.1, hq.2⟩
    · rw [if_neg hq]
      rcases ff_spec se k (i + 1) with ⟨h1, h2⟩ | ⟨u, h1, h2, h3⟩
      · refine Or.inl ⟨h1, fun c q1 q2 => ?_⟩
        by_cases hc : c = i
        · subst hc
          cases hx : (blk sz mba mgi c && sg (se c))
          · rfl
          · exact absurd hx hq
        · exact h2 c (by omega) (by omega)
      · exact Or.inr ⟨u, by omega, by omega, h3⟩
theorem sol_spec (se : Nat → Int32) : ∀ k i, sol sz mba se k i = true → ∀ c, i ≤ c → c < i + k → opn sz mba c = true → sg (se c) = true
  | 0, i, _, c, h1, h2, _ => by omega
  | k + 1, i, h, c, h1, h2, h3 => by
    rw [sol, Bool.and_eq_true, Bool.or_eq_true] at h
    by_cases hc : c = i
    · subst hc
      rcases h.1 with q | q
      · rw [h3] at q; cases q
      · exact q
    · exact sol_spec se k (i + 1) h.2 c (by omega) (by omega) h3
/-- the sets, and the greatest rule, of solving by the first rules -/
def SC (sz : Nat) (mba mgi g : Nat → Int32) (rc : Int32) (fs st ln su : Nat → Int32) (N last : Nat) (cs : Nat → Int32) (cg : Int32) : Prop :=
  (∀ c, c < 16 → ∃ v : Nat, v < 1024 ∧ cs c = nI v) ∧ SOK (fS sz mba mgi) cs cg ∧ ∀ (tk gr : Int32) (se sr : Nat → Int32), ∃ (tk' : Int32) (se' sr' : Nat → Int32), f_X1_solve N (nI sz) rc g fs st ln su tk gr se sr (nI last) = some (tk', cg, se', sr') ∧ SEQ se' cs
theorem solve_C (hC : Cells sz mba mgi g) (h1 : RT rs rc fs st ln) (hV : VR sz mba rs) (hsu : ∀ r, r < rs.length → ∃ v : Nat, v ≤ 45 ∧ su r = nI v) {N last : Nat} (hN : 50000 < N) (hl3 : last ≤ 3) : ∃ (cs : Nat → Int32) (cg : Int32), SC sz mba mgi g rc fs st ln su N last cs cg := by
  have both := fun (tk gr : Int32) (se sr : Nat → Int32) => solve_both (su := su) (msu := su) hC h1 h1 hV (fun r hr => ⟨rfl, hsu r hr⟩) hN hl3 tk gr 0 0 se sr (fun _ => 0)
  obtain ⟨tk0, gr0, mhs0, se0, mca0, sr0, q1, q2, q3, q4⟩ := both 0 0 (fun _ => 0) (fun _ => 0)
  refine ⟨mca0, gr0, fun c hc => ?_, ?_, fun tk gr se sr => ?_⟩
  · obtain ⟨e, v, hv, ev⟩ := q3 c hc
    exact ⟨v, hv, by rw [← e, ev]⟩
  · obtain ⟨r1, lv, r2, r3, r4⟩ := q4
    have hm : msr se0 16 = msr mca0 16 := msr_eq 16 (fun c hc => (q3 c hc).1)
    exact ⟨fun c hc => by rw [← (q3 c hc).1]; exact r1 c hc, lv, r2, r3, fun w => by rw [← hm]; exact r4 w⟩
  · obtain ⟨tk', gr', mhs', se', mca', sr', p1, p2, p3, -⟩ := both tk gr se sr
    rw [q2] at p2
    simp only [Option.some.injEq, Prod.mk.injEq] at p2
    obtain ⟨-, rfl, rfl⟩ := p2
    exact ⟨tk', se', sr', p1, p3⟩
theorem solve_0 (hC : Cells sz mba mgi g) {N : Nat} (hN : 50000 < N) (tk gr : Int32) (se sr : Nat → Int32) : ∃ se' : Nat → Int32, f_X1_solve N (nI sz) rc g fs st ln su tk gr se sr 0 = some (tk, 0, se', sr) ∧ ∀ c, c < 16 → se' c = fS sz mba mgi c := by
  obtain ⟨se1, e1, e2⟩ := hC.startC_L 0 16 0 N se (by omega) (by omega) (fun c hc => by omega)
  have e1' : f_X1_start N (nI sz) g gr se = some (0, se1) := e1
  obtain ⟨m, rfl⟩ : ∃ m, N = m + 1 := ⟨N - 1, by omega⟩
  refine ⟨se1, ?_, e2⟩
  rw [f_X1_solve, e1', Option.bind_some, f_X1_solve_L8.eq_2, if_neg (by decide), if_pos (by decide)]
theorem cand_C {N last : Nat} {cs : Nat → Int32} {cg : Int32} (hs : sz ≤ 4) (h : SC sz mba mgi g rc fs st ln su N last cs cg) (hl3 : last ≤ 3) {c : Nat} (hc : isC sz c = true) (tk gr : Int32) (se sr : Nat → Int32) : ∃ (tk' gr' : Int32) (se' sr' : Nat → Int32), f_L_candidates N (nI sz) rc g fs st ln su tk gr se sr (nI c) (nI last) = some (cs c, tk', gr', se', sr') := by
  obtain ⟨tk', se', sr', q1, q2⟩ := h.2.2 tk gr se sr
  have hc16 := (isC_lt hc).1
  have e1 := (needCell_t hs hc).1
  have r2 : ¬ nI last < (0 : Int32) := nI_pos (by omega)
  have r3 : nI last ≤ (3 : Int32) := nI_le (b := 3) hl3 (by decide)
  have hset : f_X1_setAt se' (nI c) = cs c := by rw [f_X1_setAt, at_in _ (by decide) hc16, (q2 c hc16).1]
  refine ⟨tk', cg, se', sr', ?_⟩
  simp only [f_L_candidates, f_X3_candidates, e1, Option.bind_some, sm_inl, jn_p, if_neg r2, if_pos r3, q1, hset]
theorem cand_0 (hC : Cells sz mba mgi g) {N : Nat} (hN : 50000 < N) {c : Nat} (hc : isC sz c = true) (tk gr : Int32) (se sr : Nat → Int32) : ∃ (tk' gr' : Int32) (se' sr' : Nat → Int32), f_L_candidates N (nI sz) rc g fs st ln su tk gr se sr (nI c) 0 = some (fS sz mba mgi c, tk', gr', se', sr') := by
  obtain ⟨se', q1, q2⟩ := solve_0 (rc := rc) (fs := fs) (st := st) (ln := ln) (su := su) hC hN tk gr se sr
  have hc16 := (isC_lt hc).1
  have e1 := (needCell_t hC.1.2 hc).1
  have hset : f_X1_setAt se' (nI c) = fS sz mba mgi c := by rw [f_X1_setAt, at_in _ (by decide) hc16, q2 c hc16]
  refine ⟨tk, 0, se', sr, ?_⟩
  simp only [f_L_candidates, f_X3_candidates, e1, Option.bind_some, sm_inl, jn_p, if_neg (show ¬ (0 : Int32) < 0 from by decide), if_pos (show (0 : Int32) ≤ 3 from by decide), q1, hset]
theorem level_C (hC : Cells sz mba mgi g) {N : Nat} (hN : 50000 < N) {cs : Nat → Int32} {cg : Int32} (h : SC sz mba mgi g rc fs st ln su N 3 cs cg) (tk gr : Int32) (se sr : Nat → Int32) : ∃ (tk' gr' : Int32) (se' sr' : Nat → Int32), f_X3_level N (nI sz) rc g fs st ln su tk gr se sr = some ((if sol sz mba cs 16 0 = true then cg else -1), tk', gr', se', sr') := by
  obtain ⟨tk', se', sr', q1, q2⟩ := h.2.2 tk gr se sr
  have q1' : f_X1_solve N (nI sz) rc g fs st ln su tk gr se sr 3 = some (tk', cg, se', sr') := q1
  have q4 : f_X1_isSolved N (nI sz) g se' = some (b01 (sol sz mba se' 16 0)) := hC.solved_eq q2 16 0 N (by omega) (by omega)
  rw [sol_congr q2 16 0 (by omega)] at q4
  refine ⟨tk', cg, se', sr', ?_⟩
  rw [f_X3_level, q1', Option.bind_some, q4, Option.bind_some]
  cases sol sz mba cs 16 0
  · rw [if_pos b01_f]; rfl
  · rw [if_neg (show ¬ b01 true = 0 from one_ne0)]; rfl
theorem hint_step (hC : Cells sz mba mgi g) {N last m : Nat} (hN : 50000 < N) (hl : last ≤ 3) {cs : Nat → Int32} {cg : Int32} (h : SC sz mba mgi g rc fs st ln su N last cs cg) (tk gr : Int32) (se sr : Nat → Int32) : ∃ (tk' : Int32) (se' sr' : Nat → Int32), SEQ se' cs ∧ f_X1_firstFound N (nI sz) g se' = some (ff sz mba mgi cs 16 0) ∧ f_X1_solveToHint_L2 N (nI sz) rc g fs st ln su (m + 1) (nI last) tk gr se sr = if ff sz mba mgi cs 16 0 = -1 then f_X1_solveToHint_L2 N (nI sz) rc g fs st ln su m (nI (last + 1)) tk' cg se' sr' else some (nI last, tk', cg, se', sr') := by
  obtain ⟨tk', se', sr', q1, q2⟩ := h.2.2 tk gr se sr
  have q4 : f_X1_firstFound N (nI sz) g se' = some (ff sz mba mgi se' 16 0) := hC.found_eq q2 16 0 N (by omega) (by omega)
  rw [ff_congr q2 16 0 (by omega)] at q4
  refine ⟨tk', se', sr', q2, q4, ?_⟩
  rw [f_X1_solveToHint_L2.eq_2, if_neg (show ¬ (3 : Int32) < nI last from nI_nlt (a := 3) (by omega) (by decide)), q1, Option.bind_some]
  dsimp only
  rw [q4, Option.bind_some, nI_1]
/-- the hint and its rules, out of the sets of the three solvings -/
theorem hints_C (hC : Cells sz mba mgi g) {N : Nat} (hN : 50000 < N) {cs1 cs2 cs3 : Nat → Int32} {cg1 cg2 cg3 : Int32} (h1 : SC sz mba mgi g rc fs st ln su N 1 cs1 cg1) (h2 : SC sz mba mgi g rc fs st ln su N 2 cs2 cg2) (h3 : SC sz mba mgi g rc fs st ln su N 3 cs3 cg3) :
    ∃ (H R : Int32), ((H = -1 ∧ R = -1 ∧ ff sz mba mgi cs3 16 0 = -1) ∨ ∃ (u last : Nat) (cs : Nat → Int32) (cg : Int32), 1 ≤ last ∧ last ≤ 3 ∧ R = nI last ∧ SC sz mba mgi g rc fs st ln su N last cs cg ∧ u < 16 ∧ H = nI u ∧ blk sz mba mgi u = true ∧ sg (cs u) = true) ∧
      (∀ (tk gr : Int32) (se sr : Nat → Int32), ∃ (tk' gr' : Int32) (se' sr' : Nat → Int32), f_X3_hint N (nI sz) rc g fs st ln su tk gr se sr = some (H, tk', gr', se', sr')) ∧
      ∀ (tk gr : Int32) (se sr : Nat → Int32), ∃ (tk' gr' : Int32) (se' sr' : Nat → Int32), f_X3_hintRules N (nI sz) rc g fs st ln su tk gr se sr = some (R, tk', gr', se', sr') := by
  have hne : ∀ u : Nat, u < 16 → ¬ nI u = -1 := fun u hu => nI_nneg1 (by omega)
  obtain ⟨m, hm⟩ : ∃ m, N = m + 1 + 1 + 1 + 1 := ⟨N - 4, by omega⟩
  have core : ∃ (H R : Int32), ((H = -1 ∧ R = -1 ∧ ff sz mba mgi cs3 16 0 = -1) ∨ ∃ (u last : Nat) (cs : Nat → Int32) (cg : Int32), 1 ≤ last ∧ last ≤ 3 ∧ R = nI last ∧ SC sz mba mgi g rc fs st ln su N last cs cg ∧ u < 16 ∧ H = nI u ∧ blk sz mba mgi u = true ∧ sg (cs u) = true) ∧
      ∀ (tk gr : Int32) (se sr : Nat → Int32), ∃ (tk' gr' : Int32) (se' sr' : Nat → Int32), f_X1_solveToHint N (nI sz) rc g fs st ln su tk gr se sr = some (R, tk', gr', se', sr') ∧ f_X1_firstFound N (nI sz) g se' = some H := by
    rcases ff_spec (sz := sz) (mba := mba) (mgi := mgi) cs1 16 0 with ⟨f1, -⟩ | ⟨u, -, u2, u3, u4, u5⟩
    · rcases ff_spec (sz := sz) (mba := mba) (mgi := mgi) cs2 16 0 with ⟨f2, -⟩ | ⟨u, -, u2, u3, u4, u5⟩
      · rcases ff_spec (sz := sz) (mba := mba) (mgi := mgi) cs3 16 0 with ⟨f3, -⟩ | ⟨u, -, u2, u3, u4, u5⟩
        · refine ⟨-1, -1, Or.inl ⟨rfl, rfl, f3⟩, fun tk gr se sr => ?_⟩
          obtain ⟨tk1, se1, sr1, -, -, a3⟩ := hint_step (m := m + 1 + 1 + 1) hC hN (by omega) h1 tk gr se sr
          obtain ⟨tk2, se2, sr2, -, -, b3⟩ := hint_step (m := m + 1 + 1) hC hN (by omega) h2 tk1 cg1 se1 sr1
          obtain ⟨tk3, se3, sr3, -, c2, c3⟩ := hint_step (m := m + 1) hC hN (by omega) h3 tk2 cg2 se2 sr2
          rw [if_pos f1] at a3
          rw [if_pos f2] at b3
          rw [if_pos f3] at c3
          refine ⟨tk3, cg3, se3, sr3, ?_, by rw [c2, f3]⟩
          have e : f_X1_solveToHint_L2 N (nI sz) rc g fs st ln su (m + 1) (nI (3 + 1)) tk3 cg3 se3 sr3 = some (-1, tk3, cg3, se3, sr3) := by
            rw [f_X1_solveToHint_L2.eq_2, if_pos (by decide)]
          have e2 := a3.trans (b3.trans (c3.trans e))
          rw [f_X1_solveToHint]
          rw [← hm] at e2
          exact e2
        · refine ⟨nI u, nI 3, Or.inr ⟨u, 3, cs3, cg3, by omega, by omega, rfl, h3, by omega, rfl, u4, u5⟩, fun tk gr se sr => ?_⟩
          obtain ⟨tk1, se1, sr1, -, -, a3⟩ := hint_step (m := m + 1 + 1 + 1) hC hN (by omega) h1 tk gr se sr
          obtain ⟨tk2, se2, sr2, -, -, b3⟩ := hint_step (m := m + 1 + 1) hC hN (by omega) h2 tk1 cg1 se1 sr1
          obtain ⟨tk3, se3, sr3, -, c2, c3⟩ := hint_step (m := m + 1) hC hN (by omega) h3 tk2 cg2 se2 sr2
          rw [if_pos f1] at a3
          rw [if_pos f2] at b3
          rw [if_neg (by rw [u3]; exact hne u (by omega))] at c3
          refine ⟨tk3, cg3, se3, sr3, ?_, by rw [c2, u3]⟩
          have e2 := a3.trans (b3.trans c3)
          rw [f_X1_solveToHint]
          rw [← hm] at e2
          exact e2
      · refine ⟨nI u, nI 2, Or.inr ⟨u, 2, cs2, cg2, by omega, by omega, rfl, h2, by omega, rfl, u4, u5⟩, fun tk gr se sr => ?_⟩
        obtain ⟨tk1, se1, sr1, -, -, a3⟩ := hint_step (m := m + 1 + 1 + 1) hC hN (by omega) h1 tk gr se sr
        obtain ⟨tk2, se2, sr2, -, b2, b3⟩ := hint_step (m := m + 1 + 1) hC hN (by omega) h2 tk1 cg1 se1 sr1
        rw [if_pos f1] at a3
        rw [if_neg (by rw [u3]; exact hne u (by omega))] at b3
        refine ⟨tk2, cg2, se2, sr2, ?_, by rw [b2, u3]⟩
        have e2 := a3.trans b3
        rw [f_X1_solveToHint]
        rw [← hm] at e2
        exact e2
    · refine ⟨nI u, nI 1, Or.inr ⟨u, 1, cs1, cg1, by omega, by omega, rfl, h1, by omega, rfl, u4, u5⟩, fun tk gr se sr => ?_⟩
      obtain ⟨tk1, se1, sr1, -, a2, a3⟩ := hint_step (m := m + 1 + 1 + 1) hC hN (by omega) h1 tk gr se sr
      rw [if_neg (by rw [u3]; exact hne u (by omega))] at a3
      refine ⟨tk1, cg1, se1, sr1, ?_, by rw [a2, u3]⟩
      rw [f_X1_solveToHint]
      rw [← hm] at a3
      exact a3
  obtain ⟨H, R, k1, k2⟩ := core
  refine ⟨H, R, k1, fun tk gr se sr => ?_, fun tk gr se sr => ?_⟩
  · obtain ⟨tk', gr', se', sr', q1, q2⟩ := k2 tk gr se sr
    refine ⟨tk', gr', se', sr', ?_⟩
    rw [f_X3_hint, q1, Option.bind_some]
    dsimp only
    rw [q2, Option.bind_some]
  · obtain ⟨tk', gr', se', sr', q1, -⟩ := k2 tk gr se sr
    refine ⟨tk', gr', se', sr', ?_⟩
    rw [f_X3_hintRules, q1, Option.bind_some]
end RULES
