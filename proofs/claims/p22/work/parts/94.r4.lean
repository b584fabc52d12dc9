/-! solving by rules: the loop of goings through -/
theorem pcI_le (x : Int32) : pcI x ≤ 10 := cnt_le _ 10 0
theorem msr_le (se : Nat → Int32) : ∀ k, msr se k ≤ 10 * k
  | 0 => Nat.le_refl _
  | k + 1 => by
    have := msr_le se k
    have := pcI_le (se k)
    rw [msr]; omega
def SOK (se0 se' : Nat → Int32) (gr' : Int32) : Prop := SUB se' se0 ∧ ∃ lv : Nat, lv ≤ 3 ∧ gr' = nI lv ∧ (lv ≠ 0 → msr se' 16 < msr se0 16)
theorem pcI_sub {x y : Int32} (h : x &&& y = x) : pcI x ≤ pcI y := by
  refine cnt_mono (fun d hd => ?_) 10 0
  rw [← h] at hd
  simp only [Int32.toBitVec_and, BitVec.getLsbD_and, Bool.and_eq_true] at hd
  exact hd.2
theorem msr_sub {s t : Nat → Int32} : ∀ k, (∀ c, c < k → s c &&& t c = s c) → msr s k ≤ msr t k
  | 0, _ => Nat.le_refl _
  | k + 1, h => by
    have := msr_sub (s := s) (t := t) k (fun c hc => h c (by omega))
    have := pcI_sub (h k (by omega))
    rw [msr, msr]; omega
theorem SUB.le {s t : Nat → Int32} (h : SUB s t) : msr s 16 ≤ msr t 16 := msr_sub 16 h
section SOLVE
variable {sz : Nat} {mba mgi g : Nat → Int32} {rs : Rn} {rc mrn : Int32} {fs st ln mfi mst mle su msu : Nat → Int32}
theorem go_both (h1 : RT rs rc fs st ln) (h2 : RT rs mrn mfi mst mle) (hV : VR sz mba rs) (hsu : ∀ r, r < rs.length → su r = msu r ∧ ∃ v : Nat, v ≤ 45 ∧ su r = nI v) {N rule : Nat} (hN : 50000 < N) (hr1 : 1 ≤ rule) (hr3 : rule ≤ 3) (tk : Int32) {se mca : Nat → Int32} (sr : Nat → Int32) (hs : SEQ se mca) :
    ∃ (tk' : Int32) (se' mca' sr' : Nat → Int32), f_X1_goThrough N rc fs st ln su tk se sr (nI rule) = some (tk', se', sr') ∧ ((rule = 1 ∧ f_X4_goThroughSingles N mrn 0 mfi mle mst mca = some (tk', mca')) ∨ (rule = 2 ∧ f_X4_goThroughSets N mrn 0 mfi mle mst msu mca = some (tk', mca')) ∨ (rule = 3 ∧ f_X4_goThroughRows N mrn 0 mfi mle mst msu mca = some (tk', mca'))) ∧ SEQ se' mca' ∧ SUB se' se ∧ ((tk' = 0 ∧ msr se' 16 ≤ msr se 16) ∨ (tk' = 1 ∧ msr se' 16 < msr se 16)) := by
  have hs0 : SR 0 0 se mca := ⟨rfl, Or.inl rfl, hs⟩
  have h8 := h1.2.1
  have fin : ∀ {tk' mhs' : Int32} {se' mca' : Nat → Int32}, SR tk' mhs' se' mca' → LE 0 se tk' se' → mhs' = tk' ∧ SEQ se' mca' ∧ SUB se' se ∧ ((tk' = 0 ∧ msr se' 16 ≤ msr se 16) ∨ (tk' = 1 ∧ msr se' 16 < msr se 16)) := by
    intro tk' mhs' se' mca' q1 q2
    refine ⟨q1.1.symm, q1.2.2, q2.2, ?_⟩
    obtain ⟨p1, p2⟩ := q2.1
    rcases p2 with p2 | ⟨p2, p3⟩
    · exact Or.inl ⟨p2, p1⟩
    · exact Or.inr ⟨p2, p3⟩
  have hcase : rule = 1 ∨ rule = 2 ∨ rule = 3 := by omega
  rcases hcase with rfl | rfl | rfl
  · obtain ⟨tk1, mhs1, se1, mca1, q1, q2, q3, q4⟩ := go1_L (su := su) h1 h2 hV (N := N) (by omega) sr rs.length 0 N N 0 0 se mca (Nat.zero_add _) (by omega) (by omega) hs0
    obtain ⟨e1, e2, e3⟩ := fin q3 q4
    subst e1
    exact ⟨mhs1, se1, mca1, sr, q1, Or.inl ⟨rfl, q2⟩, e2, e3⟩
  · obtain ⟨tk1, mhs1, se1, mca1, q1, q2, q3, q4⟩ := go2_L h1 h2 hV hsu (N := N) (by omega) sr rs.length 0 N N 0 0 se mca (Nat.zero_add _) (by omega) (by omega) hs0
    obtain ⟨e1, e2, e3⟩ := fin q3 q4
    subst e1
    exact ⟨mhs1, se1, mca1, sr, q1, Or.inr (Or.inl ⟨rfl, q2⟩), e2, e3⟩
  · obtain ⟨tk1, mhs1, se1, mca1, sr1, q1, q2, q3, q4⟩ := go3_L h1 h2 hV hsu hN rs.length 0 N N 0 0 se mca sr (Nat.zero_add _) (by omega) (by omega) hs0
    obtain ⟨e1, e2, e3⟩ := fin q3 q4
    subst e1
    exact ⟨mhs1, se1, mca1, sr1, q1, Or.inr (Or.inr ⟨rfl, q2⟩), e2, e3⟩
theorem solveC_step {N last rule gg m lv : Nat} (hlr : ¬ nI last < nI rule) (hgg : gg < 1000) {tk tk1 : Int32} {se se1 sr sr1 : Nat → Int32} (a1 : f_X1_goThrough N rc fs st ln su tk se sr (nI rule) = some (tk1, se1, sr1)) {e : Bool} (d1 : f_X1_hasEmptyCell N (nI sz) g se1 = some (b01 e)) :
    f_X1_solve_L8 N (nI last) (nI sz) rc g fs st ln su (m + 1) (nI rule) (nI gg) tk (nI lv) se sr = if e = true then some (tk1, (if tk1 = 0 then nI lv else (if nI lv < nI rule then nI rule else nI lv)), se1, sr1) else f_X1_solve_L8 N (nI last) (nI sz) rc g fs st ln su m (if tk1 = 0 then nI (rule + 1) else 1) (nI (gg + 1)) tk1 (if tk1 = 0 then nI lv else (if nI lv < nI rule then nI rule else nI lv)) se1 sr1 := by
  have hg : ¬ (1000 : Int32) ≤ nI gg := nI_ge (b := 1000) (by omega) (by omega)
  rw [f_X1_solve_L8.eq_2, if_neg hg, if_neg hlr, a1, Option.bind_some]
  simp only [jn_p, d1, Option.bind_some, nI_1]
  cases e
  · by_cases h0 : tk1 = 0
    · simp only [if_pos h0, if_pos b01_f, if_neg (show ¬ (false = true) from by decide)]
    · simp only [if_neg h0, if_pos b01_f, if_neg (show ¬ (false = true) from by decide)]
  · by_cases h0 : tk1 = 0
    · simp only [if_pos h0, if_neg (show ¬ b01 true = 0 from one_ne0), if_true]
    · simp only [if_neg h0, if_neg (show ¬ b01 true = 0 from one_ne0), if_true]
theorem solveM_step {N last rule m lv : Nat} (hlr : ¬ nI last < nI rule) {mhs tk1 : Int32} {mca mca1 : Nat → Int32} (a1 : (rule = 1 ∧ f_X4_goThroughSingles N mrn 0 mfi mle mst mca = some (tk1, mca1)) ∨ (rule = 2 ∧ f_X4_goThroughSets N mrn 0 mfi mle mst msu mca = some (tk1, mca1)) ∨ (rule = 3 ∧ f_X4_goThroughRows N mrn 0 mfi mle mst msu mca = some (tk1, mca1))) {e : Bool} (d1 : f_X4_isDead N (nI sz) mba mca1 = some (b01 e)) :
    f_X4_solve_L62 N (nI last) (nI sz) mrn mba mfi mle mst msu (m + 1) (nI rule) mhs (nI lv) mca = if e = true then some (tk1, (if tk1 = 0 then nI lv else (if nI rule ≤ nI lv then nI lv else nI rule)), mca1) else f_X4_solve_L62 N (nI last) (nI sz) mrn mba mfi mle mst msu m (if tk1 = 0 then nI (rule + 1) else 1) tk1 (if tk1 = 0 then nI lv else (if nI rule ≤ nI lv then nI lv else nI rule)) mca1 := by
  have key : f_X4_solve_L62 N (nI last) (nI sz) mrn mba mfi mle mst msu (m + 1) (nI rule) mhs (nI lv) mca = if tk1 = 0 then (if e = true then some (tk1, nI lv, mca1) else f_X4_solve_L62 N (nI last) (nI sz) mrn mba mfi mle mst msu m (nI (rule + 1)) tk1 (nI lv) mca1) else if nI rule ≤ nI lv then (if e = true then some (tk1, nI lv, mca1) else f_X4_solve_L62 N (nI last) (nI sz) mrn mba mfi mle mst msu m 1 tk1 (nI lv) mca1) else (if e = true then some (tk1, nI rule, mca1) else f_X4_solve_L62 N (nI last) (nI sz) mrn mba mfi mle mst msu m 1 tk1 (nI rule) mca1) := by
    rw [f_X4_solve_L62.eq_2, if_neg hlr]
    rcases a1 with ⟨rfl, a1⟩ | ⟨rfl, a1⟩ | ⟨rfl, a1⟩
    · simp only [jn_p, if_pos (show nI 1 = (1 : Int32) from rfl), a1, Option.bind_some, d1, nI_1]
      cases e
      · by_cases h0 : tk1 = 0
        · simp only [if_pos h0, if_pos b01_f, if_neg (show ¬ (false = true) from by decide)]
        · simp only [if_neg h0, if_pos b01_f, if_neg (show ¬ (false = true) from by decide)]
      · simp only [if_neg (show ¬ b01 true = 0 from one_ne0), if_true]
    · simp only [jn_p, if_neg (show ¬ nI 2 = (1 : Int32) from by decide), if_pos (show nI 2 = (2 : Int32) from rfl), a1, Option.bind_some, d1, nI_1]
      cases e
      · by_cases h0 : tk1 = 0
        · simp only [if_pos h0, if_pos b01_f, if_neg (show ¬ (false = true) from by decide)]
        · simp only [if_neg h0, if_pos b01_f, if_neg (show ¬ (false = true) from by decide)]
      · simp only [if_neg (show ¬ b01 true = 0 from one_ne0), if_true]
    · simp only [jn_p, if_neg (show ¬ nI 3 = (1 : Int32) from by decide), if_neg (show ¬ nI 3 = (2 : Int32) from by decide), a1, Option.bind_some, d1, nI_1]
      cases e
      · by_cases h0 : tk1 = 0
        · simp only [if_pos h0, if_pos b01_f, if_neg (show ¬ (false = true) from by decide)]
        · simp only [if_neg h0, if_pos b01_f, if_neg (show ¬ (false = true) from by decide)]
      · simp only [if_neg (show ¬ b01 true = 0 from one_ne0), if_true]
  rw [key]
  cases e
  · by_cases h0 : tk1 = 0
    · simp only [if_pos h0]
    · simp only [if_neg h0]
      by_cases hq : nI rule ≤ nI lv
      · simp only [if_pos hq]
      · simp only [if_neg hq]
  · by_cases h0 : tk1 = 0
    · simp only [if_pos h0]
    · simp only [if_neg h0]
      by_cases hq : nI rule ≤ nI lv
      · simp only [if_pos hq]
      · simp only [if_neg hq]
theorem solve_L (hC : Cells sz mba mgi g) (h1 : RT rs rc fs st ln) (h2 : RT rs mrn mfi mst mle) (hV : VR sz mba rs) (hsu : ∀ r, r < rs.length → su r = msu r ∧ ∃ v : Nat, v ≤ 45 ∧ su r = nI v) {N last : Nat} (hN : 50000 < N) (hl3 : last ≤ 3) (se0 : Nat → Int32) : ∀ (K gg rule n nm lv : Nat) (tk mhs : Int32) (se mca sr : Nat → Int32), 4 * msr se 16 + 4 ≤ K + rule → gg + K ≤ 1000 → 1 ≤ rule → rule ≤ 4 → lv ≤ 3 → K < n → K < nm → SEQ se mca → SUB se se0 → (lv ≠ 0 → msr se 16 < msr se0 16) →
    ∃ (tk' gr' mhs' : Int32) (se' mca' sr' : Nat → Int32), f_X1_solve_L8 N (nI last) (nI sz) rc g fs st ln su n (nI rule) (nI gg) tk (nI lv) se sr = some (tk', gr', se', sr') ∧ f_X4_solve_L62 N (nI last) (nI sz) mrn mba mfi mle mst msu nm (nI rule) mhs (nI lv) mca = some (mhs', gr', mca') ∧ SEQ se' mca' ∧ SOK se0 se' gr'
  | 0, gg, rule, n, nm, lv, tk, mhs, se, mca, sr, hK, hg, hr1, hr4, hlv, hn, hnm, hs, hsub, hlt => by
    obtain ⟨m, rfl⟩ : ∃ m, n = m + 1 := ⟨n - 1, by omega⟩
    obtain ⟨mm, rfl⟩ : ∃ mm, nm = mm + 1 := ⟨nm - 1, by omega⟩
    have hlr : nI last < nI rule := nI_lt (by omega) (by omega)
    rw [f_X1_solve_L8.eq_2, f_X4_solve_L62.eq_2, if_pos hlr, if_pos hlr, ite_self]
    exact ⟨tk, nI lv, mhs, se, mca, sr, rfl, rfl, hs, hsub, lv, hlv, rfl, hlt⟩
  | K + 1, gg, rule, n, nm, lv, tk, mhs, se, mca, sr, hK, hg, hr1, hr4, hlv, hn, hnm, hs, hsub, hlt => by
    obtain ⟨m, rfl⟩ : ∃ m, n = m + 1 := ⟨n - 1, by omega⟩
    obtain ⟨mm, rfl⟩ : ∃ mm, nm = mm + 1 := ⟨nm - 1, by omega⟩
    by_cases hlr0 : last < rule
    · have hlr : nI last < nI rule := nI_lt (by omega) (by omega)
      rw [f_X1_solve_L8.eq_2, f_X4_solve_L62.eq_2, if_pos hlr, if_pos hlr, ite_self]
      exact ⟨tk, nI lv, mhs, se, mca, sr, rfl, rfl, hs, hsub, lv, hlv, rfl, hlt⟩
    · have hlr : ¬ nI last < nI rule := nI_nlt (by omega) (by omega)
      obtain ⟨tk1, se1, mca1, sr1, a1, a2, a3, a9, a4⟩ := go_both h1 h2 hV hsu hN hr1 (by omega) tk sr hs
      have d1 : f_X1_hasEmptyCell N (nI sz) g se1 = some (b01 (emp sz mba se1 16 0)) := hC.empty_eq se1 16 0 N (by omega) (by omega)
      have d2 : f_X4_isDead N (nI sz) mba mca1 = some (b01 (emp sz mba se1 16 0)) := by
        rw [emp_congr a3 16 0 (by omega)]
        exact hC.dead_eq mca1 16 0 N false (by omega) (by omega)
      rw [solveC_step hlr (by omega) a1 d1, solveM_step hlr a2 d2]
      rcases a4 with ⟨a4, a5⟩ | ⟨a4, a5⟩
      · rw [if_pos a4, if_pos a4, if_pos a4]
        cases emp sz mba se1 16 0
        · rw [if_neg (show ¬ (false = true) from by decide), if_neg (show ¬ (false = true) from by decide)]
          exact solve_L hC h1 h2 hV hsu hN hl3 se0 K (gg + 1) (rule + 1) m mm lv tk1 tk1 se1 mca1 sr1 (by omega) (by omega) (by omega) (by omega) hlv (by omega) (by omega) a3 (hsub.trans a9) (fun q => Nat.lt_of_le_of_lt a5 (hlt q))
        · rw [if_pos rfl, if_pos rfl]
          exact ⟨tk1, nI lv, tk1, se1, mca1, sr1, rfl, rfl, a3, hsub.trans a9, lv, hlv, rfl, fun q => Nat.lt_of_le_of_lt a5 (hlt q)⟩
      · have h10 : ¬ tk1 = 0 := by rw [a4]; exact one_ne0
        rw [if_neg h10, if_neg h10, if_neg h10]
        obtain ⟨lv', hlv', hlC, hlM⟩ : ∃ lv' : Nat, lv' ≤ 3 ∧ (if nI lv < nI rule then nI rule else nI lv) = nI lv' ∧ (if nI rule ≤ nI lv then nI lv else nI rule) = nI lv' := by
          by_cases hq : lv < rule
          · exact ⟨rule, by omega, if_pos (nI_lt hq (by omega)), if_neg (nI_ge hq (by omega))⟩
          · exact ⟨lv, hlv, if_neg (nI_nlt (by omega) (by omega)), if_pos (nI_le (by omega) (by omega))⟩
        rw [hlC, hlM]
        cases emp sz mba se1 16 0
        · rw [if_neg (show ¬ (false = true) from by decide), if_neg (show ¬ (false = true) from by decide)]
          exact solve_L hC h1 h2 hV hsu hN hl3 se0 K (gg + 1) 1 m mm lv' tk1 tk1 se1 mca1 sr1 (by omega) (by omega) (by omega) (by omega) hlv' (by omega) (by omega) a3 (hsub.trans a9) (fun _ => Nat.lt_of_lt_of_le a5 hsub.le)
        · rw [if_pos rfl, if_pos rfl]
          exact ⟨tk1, nI lv', tk1, se1, mca1, sr1, rfl, rfl, a3, hsub.trans a9, lv', hlv', rfl, fun _ => Nat.lt_of_lt_of_le a5 hsub.le⟩
theorem solve_both (hC : Cells sz mba mgi g) (h1 : RT rs rc fs st ln) (h2 : RT rs mrn mfi mst mle) (hV : VR sz mba rs) (hsu : ∀ r, r < rs.length → su r = msu r ∧ ∃ v : Nat, v ≤ 45 ∧ su r = nI v) {N last : Nat} (hN : 50000 < N) (hl3 : last ≤ 3) (tk gr mhs mlv : Int32) (se sr mca : Nat → Int32) :
    ∃ (tk' gr' mhs' : Int32) (se' mca' sr' : Nat → Int32), f_X1_solve N (nI sz) rc g fs st ln su tk gr se sr (nI last) = some (tk', gr', se', sr') ∧ f_X4_solve N (nI sz) mrn mhs mlv mba mgi mfi mle mst msu mca (nI last) = some (mhs', gr', mca') ∧ SEQ se' mca' ∧ SOK (fS sz mba mgi) se' gr' := by
  obtain ⟨se1, e1, e2⟩ := hC.startC_L 0 16 0 N se (by omega) (by omega) (fun c hc => by omega)
  obtain ⟨mca1, e3, e4⟩ := hC.startM_L (fun (mca_60 : Nat → Int32) => f_X4_solve_L62 N (nI last) (nI sz) mrn mba mfi mle mst msu N 1 mhs 0 mca_60) 16 0 N mca (by omega) (by omega) (fun c hc => by omega)
  have hs : SEQ se1 mca1 := fun c hc => by
    rw [e2 c hc, e4 c hc]
    exact ⟨rfl, hC.fS_small hc⟩
  have hm := msr_le se1 16
  obtain ⟨tk', gr', mhs', se', mca', sr', q1, q2, q3⟩ := solve_L hC h1 h2 hV hsu hN hl3 (fS sz mba mgi) 643 0 1 N N 0 tk mhs se1 mca1 sr (by omega) (by omega) (by omega) (by omega) (by omega) (by omega) (by omega) hs (fun c hc => by rw [e2 c hc, Int32.and_self]) (fun q => absurd rfl q)
  have e1' : f_X1_start N (nI sz) g gr se = some (0, se1) := e1
  refine ⟨tk', gr', mhs', se', mca', sr', ?_, ?_, q3⟩
  · rw [f_X1_solve, e1', Option.bind_some]; exact q1
  · rw [f_X4_solve, jn_p]; exact Eq.trans e3 q2
end SOLVE
