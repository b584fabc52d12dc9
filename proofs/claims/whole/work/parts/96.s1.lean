/-! the two boards hold the same: digits, sums, what is asked of the board -/
theorem rng_cases (M : Nat) (hM : M < 2 ^ 31) (p : Int32) : (f_X4_in p 0 (nI M) = 0 ∧ (p < 0 ∨ (¬ p < 0 ∧ ¬ p ≤ nI M))) ∨ ∃ j : Nat, j ≤ M ∧ p = nI j ∧ f_X4_in p 0 (nI M) = 1 ∧ ¬ p < 0 ∧ p ≤ nI M := by
  rcases i_cases p with h | ⟨j, hj, rfl⟩
  · exact Or.inl ⟨in_neg h 0 (by decide) _, Or.inl h⟩
  · have hin : f_X4_in (nI j) 0 (nI M) = b01 (decide (0 ≤ j) && decide (j ≤ M)) := in_nI (a := 0) hj (by decide) hM
    by_cases q : j ≤ M
    · exact Or.inr ⟨j, q, rfl, by rw [hin, decide_eq_true q]; rfl, nI_pos hj, nI_le q hM⟩
    · exact Or.inl ⟨by rw [hin, decide_eq_false q]; rfl, Or.inr ⟨nI_pos hj, nI_ge (by omega) hj⟩⟩
theorem run_cases {rs : Rn} {rc mrn : Int32} {fs st ln mfi mst mle : Nat → Int32} (h1 : RT rs rc fs st ln) (h2 : RT rs mrn mfi mst mle) (p : Int32) : (f_X3_needRun rc p = some (.inr 3) ∧ f_X4_isRun mrn p = some 0) ∨ ∃ (r : Nat) (t : Nat × Nat × Nat), p = nI r ∧ r < 8 ∧ rs[r]? = some t ∧ f_X3_needRun rc p = some (.inl ()) ∧ f_X4_isRun mrn p = some 1 := by
  have h8 := h1.2.1
  have g0 : ∀ x : Int32, x = 0 → gd (x = 0 ∨ x = 1) (some x) = some 0 := fun x hx => by rw [gd_t (Or.inl hx), hx]
  have g1 : ∀ x : Int32, x = 1 → gd (x = 0 ∨ x = 1) (some x) = some 1 := fun x hx => by rw [gd_t (Or.inr hx), hx]
  rcases i_cases p with h | ⟨j, hj, rfl⟩
  · left
    have e : f_X0_hasRun rc p = 0 := by simp only [f_X0_hasRun, jn_p, if_pos h]
    exact ⟨by rw [f_X3_needRun, e, if_pos rfl], by rw [f_X4_isRun]; exact g0 _ (in_neg h 0 (by decide) _)⟩
  · by_cases q : j < rs.length
    · right
      obtain ⟨t, hr⟩ : ∃ t, rs[j]? = some t := ⟨_, List.getElem?_eq_getElem q⟩
      have e : f_X0_hasRun rc (nI j) = 1 := by
        rw [h1.1]
        simp only [f_X0_hasRun, jn_p, if_neg (nI_pos hj), if_neg (nI_ge q (show rs.length < 2 ^ 31 by omega))]
      have e2 : f_X4_in (nI j) 0 (mrn - 1) = 1 := by
        rw [h2.1, show (1 : Int32) = nI 1 from rfl, nI_sub (show 1 ≤ rs.length by omega)]
        have := in_nI (j := j) (a := 0) (b := rs.length - 1) hj (by decide) (by omega)
        rw [decide_eq_true (show 0 ≤ j by omega), decide_eq_true (show j ≤ rs.length - 1 by omega)] at this
        exact this
      exact ⟨j, t, rfl, by omega, hr, by rw [f_X3_needRun, e, if_neg one_ne0], by rw [f_X4_isRun]; exact g1 _ e2⟩
    · left
      have e : f_X0_hasRun rc (nI j) = 0 := by
        rw [h1.1]
        simp only [f_X0_hasRun, jn_p, if_neg (nI_pos hj), if_pos (nI_le (show rs.length ≤ j by omega) hj)]
      have e2 : f_X4_in (nI j) 0 (mrn - 1) = 0 := by
        rw [h2.1]
        rcases Nat.eq_zero_or_pos rs.length with z | z
        · rw [z]
          have a1 : ¬ nI j < (0 : Int32) := nI_pos hj
          have a2 : nI 0 - 1 < nI j := by
            rw [Int32.lt_iff_toInt_lt, nI_toInt hj]
            have : (nI 0 - 1).toInt = -1 := by decide
            omega
          simp only [f_X4_in, jn_p, if_neg a1, if_pos a2]
        · rw [show (1 : Int32) = nI 1 from rfl, nI_sub (show 1 ≤ rs.length by omega)]
          have := in_nI (j := j) (a := 0) (b := rs.length - 1) hj (by decide) (by omega)
          rw [decide_eq_false (show ¬ j ≤ rs.length - 1 by omega), Bool.and_false] at this
          exact this
      exact ⟨by rw [f_X3_needRun, e, if_pos rfl], by rw [f_X4_isRun]; exact g0 _ e2⟩
section CALLS2
variable {size rc msz mrn : Int32} {g fs st ln su rr cr mba mgi mfi mle mst msu : Nat → Int32}
theorem give_both (hI : INV size rc g fs st ln su rr cr msz mrn mba mgi mfi mle mst msu) (mth p1 p2 : Int32) (ou : Nat → Int64) : ∃ (k ans : Int32) (g' : Nat → Int32) (ou' : Nat → Int64) (mgi' : Nat → Int32), f_L_give size g ou p1 p2 = some (k, g', ou') ∧ f_X4_give mth msz mba mgi p1 p2 = some (ans, k, mgi') ∧ (k = 0 → ou' 0 = ans.toInt64) ∧ INV size rc g' fs st ln su rr cr msz mrn mba mgi' mfi mle mst msu := by
  obtain ⟨sz, rs, rfl, rfl, hC, h1, h2, hR, hV, hsu⟩ := id hI
  have two0 : ¬ (2 : Int32) = 0 := by decide
  have three0 : ¬ (3 : Int32) = 0 := by decide
  rcases cell_cases hC.1.2 p1 with ⟨e1, e2⟩ | ⟨c, rfl, hc, e1, e2⟩
  · refine ⟨1, 0, g, ou, mgi, ?_, ?_, fun q => absurd q one_ne0, hI⟩
    · simp only [f_L_give, f_X3_give, e1, Option.bind_some, sm_inr, if_true]
    · simp only [f_X4_give, jn_p, e2, f_X4_goesWell, if_true, if_neg one_ne0]
  · have hc16 := (isC_lt hc).1
    have hin : inR (nI c) 16 := inR_in (by decide) hc16
    have hcl : (nI c).toNatClampNeg = c := nI_clamp (by omega)
    rcases rng_cases 9 (by decide) p2 with ⟨r1, r2⟩ | ⟨d, hd9, rfl, r1, r2, r3⟩
    · have r1' : f_X4_in p2 0 9 = 0 := r1
      have e3 : f_X3_give (nI sz) g (nI c) p2 = some (.inr (1, g)) := by
        rcases r2 with r2 | ⟨r2, r3⟩
        · simp only [f_X3_give, e1, Option.bind_some, sm_inl, jn_p, if_pos r2]
        · have r3' : ¬ p2 ≤ (9 : Int32) := r3
          simp only [f_X3_give, e1, Option.bind_some, sm_inl, jn_p, if_neg r2, if_neg r3']
      refine ⟨2, 0, g, ou, mgi, ?_, ?_, fun q => absurd q two0, hI⟩
      · rw [f_L_give, e3, Option.bind_some, sm_inr]; rfl
      · simp only [f_X4_give, jn_p, e2, if_neg one_ne0, r1', if_true, f_X4_goesWell, if_neg two0]
    · have r1' : f_X4_in (nI d) 0 9 = 1 := r1
      have r3' : nI d ≤ (9 : Int32) := r3
      obtain ⟨m1, m2, m3, m4, m5⟩ := hC.2 c hc16
      have ho := hC.isOpen hc16
      rw [opn, hc, Bool.true_and] at ho
      rcases m1 with m1 | m1
      · rw [decide_eq_true m1] at ho
        have hg : f_X0_givenAt g (nI c) = mgi c := by rw [f_X0_givenAt, at_in _ (by decide) hc16, m5, m1, if_neg zero_ne1]
        have hp : f_X0_putGiven g (nI c) (nI d) = upd g c (nI d) := put_in _ _ (by decide) hc16
        have e3 : f_X3_give (nI sz) g (nI c) (nI d) = some (.inl (mgi c, upd g c (nI d))) := by
          simp only [f_X3_give, e1, Option.bind_some, sm_inl, jn_p, if_neg r2, if_pos r3', ho, if_neg (show ¬ b01 true = 0 from one_ne0), hg, hp]
        refine ⟨0, mgi c, upd g c (nI d), vp_updL ou ((0 : Int32)).toNatClampNeg ((mgi c : Int32).toInt64), upd mgi c (nI d), ?_, ?_, fun _ => rfl, sz, rs, rfl, rfl, ⟨hC.1, fun x hx => ?_⟩, h1, h2, hR, hV, hsu⟩
        · rw [f_L_give, e3, Option.bind_some, sm_inl]
        · simp only [f_X4_give, jn_p, e2, if_neg one_ne0, r1', gd_t hin, hcl, m1, if_true, f_X4_goesWell]
        · by_cases hq : x = c
          · rw [hq, upd_eq, upd_eq, m1, if_neg zero_ne1]
            exact ⟨Or.inl rfl, ⟨d, hd9, rfl⟩, fun q => absurd q zero_ne1, fun q => (by rw [hc] at q; cases q), rfl⟩
          · rw [upd_ne _ _ hq, upd_ne _ _ hq]; exact hC.2 x hx
      · have m0 : ¬ mba c = 0 := by rw [m1]; exact one_ne0
        rw [decide_eq_false m0] at ho
        have e3 : f_X3_give (nI sz) g (nI c) (nI d) = some (.inr (2, g)) := by
          simp only [f_X3_give, e1, Option.bind_some, sm_inl, jn_p, if_neg r2, if_pos r3', ho, if_pos b01_f]
        refine ⟨3, 0, g, ou, mgi, ?_, ?_, fun q => absurd q three0, hI⟩
        · rw [f_L_give, e3, Option.bind_some, sm_inr]; rfl
        · simp only [f_X4_give, jn_p, e2, if_neg one_ne0, r1', gd_t hin, hcl, if_neg m0, f_X4_goesWell, if_neg three0, if_true]
theorem setSum_both (hI : INV size rc g fs st ln su rr cr msz mrn mba mgi mfi mle mst msu) (mth p1 p2 : Int32) (ou : Nat → Int64) : ∃ (k ans : Int32) (su' : Nat → Int32) (ou' : Nat → Int64) (msu' : Nat → Int32), f_L_setSum rc su ou p1 p2 = some (k, su', ou') ∧ f_X4_setSum mth mrn msu p1 p2 = some (ans, k, msu') ∧ (k = 0 → ou' 0 = ans.toInt64) ∧ INV size rc g fs st ln su' rr cr msz mrn mba mgi mfi mle mst msu' := by
  obtain ⟨sz, rs, rfl, rfl, hC, h1, h2, hR, hV, hsu⟩ := id hI
  have two0 : ¬ (2 : Int32) = 0 := by decide
  rcases run_cases h1 h2 p1 with ⟨e1, e2⟩ | ⟨r, t, rfl, h8, hr, e1, e2⟩
  · refine ⟨1, 0, su, ou, msu, ?_, ?_, fun q => absurd q one_ne0, hI⟩
    · simp only [f_L_setSum, f_X3_setSum, e1, Option.bind_some, sm_inr, if_true]
    · simp only [f_X4_setSum, jn_p, e2, Option.bind_some, f_X4_goesWell, if_true, if_neg one_ne0]
  · have hl := (List.getElem?_eq_some_iff.mp hr).1
    have hin : inR (nI r) 8 := inR_in (by decide) h8
    have hcl : (nI r).toNatClampNeg = r := nI_clamp (by omega)
    rcases rng_cases 45 (by decide) p2 with ⟨r1, r2⟩ | ⟨d, hd45, rfl, r1, r2, r3⟩
    · have r1' : f_X4_in p2 0 45 = 0 := r1
      have e3 : f_X3_setSum rc su (nI r) p2 = some (.inr (1, su)) := by
        rcases r2 with r2 | ⟨r2, r3⟩
        · simp only [f_X3_setSum, e1, Option.bind_some, sm_inl, jn_p, if_pos r2]
        · have r3' : ¬ p2 ≤ (45 : Int32) := r3
          simp only [f_X3_setSum, e1, Option.bind_some, sm_inl, jn_p, if_neg r2, if_neg r3']
      refine ⟨2, 0, su, ou, msu, ?_, ?_, fun q => absurd q two0, hI⟩
      · rw [f_L_setSum, e3, Option.bind_some, sm_inr]; rfl
      · simp only [f_X4_setSum, jn_p, e2, Option.bind_some, if_neg one_ne0, r1', if_true, f_X4_goesWell, if_neg two0]
    · have r1' : f_X4_in (nI d) 0 45 = 1 := r1
      have r3' : nI d ≤ (45 : Int32) := r3
      have hs : f_X0_sumAt su (nI r) = su r := at_in _ (by decide) h8
      have hp : f_X0_putSum su (nI r) (nI d) = upd su r (nI d) := put_in _ _ (by decide) h8
      have e3 : f_X3_setSum rc su (nI r) (nI d) = some (.inl (su r, upd su r (nI d))) := by
        simp only [f_X3_setSum, e1, Option.bind_some, sm_inl, jn_p, if_neg r2, if_pos r3', hs, hp]
      refine ⟨0, su r, upd su r (nI d), vp_updL ou ((0 : Int32)).toNatClampNeg ((su r : Int32).toInt64), upd msu r (nI d), ?_, ?_, fun _ => rfl, sz, rs, rfl, rfl, hC, h1, h2, hR, hV, fun x hx => ?_⟩
      · rw [f_L_setSum, e3, Option.bind_some, sm_inl]
      · simp only [f_X4_setSum, jn_p, e2, Option.bind_some, if_neg one_ne0, r1', gd_t hin, hcl, if_true, f_X4_goesWell, (hsu r hl).1]
      · by_cases hq : x = r
        · rw [hq, upd_eq, upd_eq]; exact ⟨rfl, d, hd45, rfl⟩
        · rw [upd_ne _ _ hq, upd_ne _ _ hq]; exact hsu x hx
theorem press_both (hI : INV size rc g fs st ln su rr cr msz mrn mba mgi mfi mle mst msu) {N : Nat} (hN : 50000 < N) (mth : Int32) (mdi : Nat → Int32) (ou : Nat → Int64) : ∃ (k ans : Int32) (g' su' : Nat → Int32) (ou' : Nat → Int64) (mgi' msu' mdi' : Nat → Int32), f_L_press N size rc g fs st ln su ou = some (k, g', su', ou') ∧ f_X4_press N mth msz mrn mba mgi mfi mle mst msu mdi = some (ans, k, mgi', msu', mdi') ∧ (k = 0 → ou' 0 = ans.toInt64) ∧ INV size rc g' fs st ln su' rr cr msz mrn mba mgi' mfi mle mst msu' := by
  obtain ⟨sz, rs, rfl, rfl, hC, h1, h2, hR, hV, hsu⟩ := id hI
  have h8 := h1.2.1
  obtain ⟨d', e0, f0⟩ := copyGiven_eq mgi mdi (N := N) (by omega)
  have hcell : ∀ (r : Nat) (t : Nat × Nat × Nat), rs[r]? = some t → ∀ j, j < t.2.2 → g (t.1 + j * t.2.1) = d' (t.1 + j * t.2.1) := fun r t hr j hj => by
    obtain ⟨q1, q2⟩ := (hV.at hr).2.2.2 j hj
    rw [hC.g_open q2 q1, f0 _ q2]
  have c1 := hC.countBlanks (N := N) (by omega)
  have c2 := givesTwice_L h1 hV (N := N) (by omega) g rs.length 0 N (Nat.zero_add _) (by omega)
  have c2' : f_X0_givesTwice N rc g fs st ln = some (b01 (twA rs g rs.length 0)) := c2
  have c3 : twA rs g rs.length 0 = twA rs d' rs.length 0 := twA_congr hcell rs.length 0 (Nat.zero_add _)
  have two0 : ¬ (2 : Int32) = 0 := by decide
  have bad : ((decide (cnt (blk sz mba mgi) 0 16 = 0)) && !twA rs d' rs.length 0) = false → ∃ (k ans : Int32) (g' su' : Nat → Int32) (ou' : Nat → Int64) (mgi' msu' mdi' : Nat → Int32), f_L_press N (nI sz) rc g fs st ln su ou = some (k, g', su', ou') ∧ f_X4_press N mth (nI sz) mrn mba mgi mfi mle mst msu mdi = some (ans, k, mgi', msu', mdi') ∧ (k = 0 → ou' 0 = ans.toInt64) ∧ INV (nI sz) rc g' fs st ln su' rr cr (nI sz) mrn mba mgi' mfi mle mst msu' := by
    intro hb
    have e3 : f_X3_press N (nI sz) rc g fs st ln su = some (.inr (2, g, su)) := by
      rw [f_X3_press, f_X0_isFilled, c1, Option.bind_some, c2', c3]
      by_cases z : cnt (blk sz mba mgi) 0 16 = 0
      · rw [decide_eq_true z, Bool.true_and] at hb
        have ht : twA rs d' rs.length 0 = true := by
          cases hq : twA rs d' rs.length 0
          · rw [hq] at hb; cases hb
          · rfl
        rw [if_pos (show nI (cnt (blk sz mba mgi) 0 16) = 0 by rw [z]; rfl), Option.bind_some, if_neg one_ne0, ht, Option.bind_some, if_neg (show ¬ b01 true = 0 from one_ne0)]
      · have := cnt_le (blk sz mba mgi) 16 0
        rw [if_neg (show ¬ nI (cnt (blk sz mba mgi) 0 16) = 0 from fun w => z ((nI_inj (b := 0) (by omega) (by omega)).mp w)), Option.bind_some, if_pos rfl]
    refine ⟨1, 0, g, su, ou, mgi, msu, d', ?_, ?_, fun q => absurd q one_ne0, hI⟩
    · rw [f_L_press, e3, Option.bind_some, sm_inr]; rfl
    · rw [f_X4_press, e0, Option.bind_some]
      simp only [jn_p]
      refine Eq.trans (hC.filled_L _ 16 0 N true (by omega) (by omega)) ?_
      rw [Bool.true_and]
      refine Eq.trans (twiceM_L h2 hV (N := N) (by omega) d' _ rs.length 0 N _ (Nat.zero_add _) (by omega)) ?_
      rw [hb, if_pos b01_f]
      simp only [f_X4_goesWell, if_neg one_ne0, if_true]
  cases hb : ((decide (cnt (blk sz mba mgi) 0 16 = 0)) && !twA rs d' rs.length 0)
  · exact bad hb
  · have hb2 := hb
    rw [Bool.and_eq_true, decide_eq_true_eq, Bool.not_eq_true'] at hb2
    obtain ⟨z, ht⟩ := hb2
    have hC0 : Cells sz mba (fun c => if c < 0 then 0 else mgi c) g := hC.congr (fun c hc => (if_neg (Nat.not_lt_zero c)).symm)
    obtain ⟨su', s1, -, s2⟩ := sums_L h1 hV (N := N) (by omega) g (fun (su_33 : Nat → Int32) => f_X0_sumAndEmpty_L35 (nI sz) su_33 N 0 g) rs.length 0 N su (Nat.zero_add _) (by omega)
    obtain ⟨g', s3, s4⟩ := empty_L (sz := sz) (mba := mba) su' 16 0 N g (by omega) (by omega) hC0
    obtain ⟨msu', s5, -, s6⟩ := sumsM_L h2 hV (N := N) (by omega) d' (fun (msu_126 : Nat → Int32) => f_X4_press_L128 0 mrn msu_126 d' N 0 mgi) rs.length 0 N msu (Nat.zero_add _) (by omega)
    obtain ⟨mgi', s7, s8⟩ := emptyM_L 0 mrn msu' d' 16 0 N mgi (by omega) (by omega) (fun c hc => by omega)
    have e4 : f_X0_sumAndEmpty N (nI sz) rc g fs st ln su = some (g', su') := by
      rw [f_X0_sumAndEmpty, jn_p]; exact Eq.trans s1 s3
    have e3 : f_X3_press N (nI sz) rc g fs st ln su = some (.inl (rc, g', su')) := by
      rw [f_X3_press, f_X0_isFilled, c1, Option.bind_some, c2', c3, ht, if_pos (show nI (cnt (blk sz mba mgi) 0 16) = 0 by rw [z]; rfl), Option.bind_some, if_neg one_ne0, Option.bind_some, if_pos b01_f, e4, Option.bind_some]
      rfl
    refine ⟨0, mrn, g', su', vp_updL ou ((0 : Int32)).toNatClampNeg ((rc : Int32).toInt64), mgi', msu', d', ?_, ?_, fun _ => ?_, sz, rs, rfl, rfl, s4.congr (fun c hc => (s8 c hc).symm), h1, h2, hR, hV, fun r hr => ?_⟩
    · rw [f_L_press, e3, Option.bind_some, sm_inl]
    · rw [f_X4_press, e0, Option.bind_some]
      simp only [jn_p]
      refine Eq.trans (hC.filled_L _ 16 0 N true (by omega) (by omega)) ?_
      rw [Bool.true_and]
      refine Eq.trans (twiceM_L h2 hV (N := N) (by omega) d' _ rs.length 0 N _ (Nat.zero_add _) (by omega)) ?_
      rw [hb, if_neg (show ¬ b01 true = 0 from one_ne0)]
      simp only [f_X4_goesWell, if_true, if_neg one_ne0]
      exact Eq.trans s5 s7
    · show (rc : Int32).toInt64 = mrn.toInt64
      rw [h1.1, h2.1]
    · obtain ⟨t, hrt⟩ : ∃ t, rs[r]? = some t := ⟨_, List.getElem?_eq_getElem hr⟩
      have hv := hV.at hrt
      obtain ⟨w, hw, ew⟩ := tot_nI (D := d') (a := t.1) (s := t.2.1) t.2.2 0 0 (fun i _ hi => by
        have q := (hv.2.2.2 i (by omega)).2
        rw [f0 _ q]
        exact (hC.2 _ q).2.1)
      have ec : su' r = tot d' t.1 t.2.1 t.2.2 0 0 := by
        rw [s2 r t (Nat.zero_le _) hrt]
        exact tot_congr t.2.2 0 0 (fun i _ hi => hcell r t hrt i (by omega))
      rw [ec, s6 r t (Nat.zero_le _) hrt]
      exact ⟨rfl, w, by omega, ew⟩
theorem open_both (hI : INV size rc g fs st ln su rr cr msz mrn mba mgi mfi mle mst msu) {N : Nat} (hN : 50000 < N) (mth : Int32) : ∃ ans : Int32, f_X3_open N size g = some ans ∧ f_X4_open N mth msz mba = some (ans, 0) := by
  obtain ⟨sz, rs, rfl, rfl, hC, h1, h2, hR, hV, hsu⟩ := id hI
  refine ⟨nI (cnt (opn sz mba) 0 16), ?_, ?_⟩
  · rw [f_X3_open, hC.countOpen (by omega)]; rfl
  · rw [f_X4_open, hC.countOpenM (by omega)]; rfl
theorem runs_both (hI : INV size rc g fs st ln su rr cr msz mrn mba mgi mfi mle mst msu) (mth : Int32) : f_X3_runs rc = mrn ∧ f_X4_runs mth mrn = (mrn, 0) := by
  obtain ⟨sz, rs, rfl, rfl, hC, h1, h2, hR, hV, hsu⟩ := id hI
  refine ⟨?_, rfl⟩
  rw [f_X3_runs, f_X0_countRuns, h1.1, h2.1]
theorem firstOf_both (hI : INV size rc g fs st ln su rr cr msz mrn mba mgi mfi mle mst msu) (mth p : Int32) (ou : Nat → Int64) : ∃ (k ans : Int32) (ou' : Nat → Int64), f_L_firstOf rc fs ou p = some (k, ou') ∧ f_X4_firstOf mth mrn mfi p = some (ans, k) ∧ (k = 0 → ou' 0 = ans.toInt64) := by
  obtain ⟨sz, rs, rfl, rfl, hC, h1, h2, hR, hV, hsu⟩ := id hI
  rcases run_cases h1 h2 p with ⟨e1, e2⟩ | ⟨r, t, rfl, h8, hr, e1, e2⟩
  · refine ⟨1, 0, ou, ?_, ?_, fun q => absurd q one_ne0⟩
    · rw [f_L_firstOf, f_X3_firstOf, e1, Option.bind_some, sm_inr, Option.bind_some, sm_inr]; rfl
    · simp only [f_X4_firstOf, jn_p, e2, Option.bind_some, f_X4_goesWell, if_true, if_neg one_ne0]
  · have hin : inR (nI r) 8 := inR_in (by decide) h8
    have hcl : (nI r).toNatClampNeg = r := nI_clamp (by omega)
    have hq : f_X0_firstAt fs (nI r) = mfi r := by rw [f_X0_firstAt, at_in _ (by decide) h8, (h1.2.2 r t hr).1, (h2.2.2 r t hr).1]
    refine ⟨0, mfi r, vp_updL ou ((0 : Int32)).toNatClampNeg ((mfi r : Int32).toInt64), ?_, ?_, fun _ => rfl⟩
    · rw [f_L_firstOf, f_X3_firstOf, e1, Option.bind_some, sm_inl, Option.bind_some, sm_inl, hq]
    · simp only [f_X4_firstOf, jn_p, e2, Option.bind_some, f_X4_goesWell, if_true, if_neg one_ne0, gd_t hin, hcl]
theorem lengthOf_both (hI : INV size rc g fs st ln su rr cr msz mrn mba mgi mfi mle mst msu) (mth p : Int32) (ou : Nat → Int64) : ∃ (k ans : Int32) (ou' : Nat → Int64), f_L_lengthOf rc ln ou p = some (k, ou') ∧ f_X4_lengthOf mth mrn mle p = some (ans, k) ∧ (k = 0 → ou' 0 = ans.toInt64) := by
  obtain ⟨sz, rs, rfl, rfl, hC, h1, h2, hR, hV, hsu⟩ := id hI
  rcases run_cases h1 h2 p with ⟨e1, e2⟩ | ⟨r, t, rfl, h8, hr, e1, e2⟩
  · refine ⟨1, 0, ou, ?_, ?_, fun q => absurd q one_ne0⟩
    · rw [f_L_lengthOf, f_X3_lengthOf, e1, Option.bind_some, sm_inr, Option.bind_some, sm_inr]; rfl
    · simp only [f_X4_lengthOf, jn_p, e2, Option.bind_some, f_X4_goesWell, if_true, if_neg one_ne0]
  · have hin : inR (nI r) 8 := inR_in (by decide) h8
    have hcl : (nI r).toNatClampNeg = r := nI_clamp (by omega)
    have hq : f_X0_lengthAt ln (nI r) = mle r := by rw [f_X0_lengthAt, at_in _ (by decide) h8, (h1.2.2 r t hr).2.2, (h2.2.2 r t hr).2.2]
    refine ⟨0, mle r, vp_updL ou ((0 : Int32)).toNatClampNeg ((mle r : Int32).toInt64), ?_, ?_, fun _ => rfl⟩
    · rw [f_L_lengthOf, f_X3_lengthOf, e1, Option.bind_some, sm_inl, Option.bind_some, sm_inl, hq]
    · simp only [f_X4_lengthOf, jn_p, e2, Option.bind_some, f_X4_goesWell, if_true, if_neg one_ne0, gd_t hin, hcl]
theorem sumOf_both (hI : INV size rc g fs st ln su rr cr msz mrn mba mgi mfi mle mst msu) (mth p : Int32) (ou : Nat → Int64) : ∃ (k ans : Int32) (ou' : Nat → Int64), f_L_sumOf rc su ou p = some (k, ou') ∧ f_X4_sumOf mth mrn msu p = some (ans, k) ∧ (k = 0 → ou' 0 = ans.toInt64) := by
  obtain ⟨sz, rs, rfl, rfl, hC, h1, h2, hR, hV, hsu⟩ := id hI
  rcases run_cases h1 h2 p with ⟨e1, e2⟩ | ⟨r, t, rfl, h8, hr, e1, e2⟩
  · refine ⟨1, 0, ou, ?_, ?_, fun q => absurd q one_ne0⟩
    · rw [f_L_sumOf, f_X3_sumOf, e1, Option.bind_some, sm_inr, Option.bind_some, sm_inr]; rfl
    · simp only [f_X4_sumOf, jn_p, e2, Option.bind_some, f_X4_goesWell, if_true, if_neg one_ne0]
  · have hl := (List.getElem?_eq_some_iff.mp hr).1
    have hin : inR (nI r) 8 := inR_in (by decide) h8
    have hcl : (nI r).toNatClampNeg = r := nI_clamp (by omega)
    have hq : f_X0_sumAt su (nI r) = msu r := by rw [f_X0_sumAt, at_in _ (by decide) h8, (hsu r hl).1]
    refine ⟨0, msu r, vp_updL ou ((0 : Int32)).toNatClampNeg ((msu r : Int32).toInt64), ?_, ?_, fun _ => rfl⟩
    · rw [f_L_sumOf, f_X3_sumOf, e1, Option.bind_some, sm_inl, Option.bind_some, sm_inl, hq]
    · simp only [f_X4_sumOf, jn_p, e2, Option.bind_some, f_X4_goesWell, if_true, if_neg one_ne0, gd_t hin, hcl]
theorem digit_both (hI : INV size rc g fs st ln su rr cr msz mrn mba mgi mfi mle mst msu) (mth p : Int32) (ou : Nat → Int64) : ∃ (k ans : Int32) (ou' : Nat → Int64), f_L_digit size g ou p = some (k, ou') ∧ f_X4_digit mth msz mba mgi p = some (ans, k) ∧ (k = 0 → ou' 0 = ans.toInt64) := by
  obtain ⟨sz, rs, rfl, rfl, hC, h1, h2, hR, hV, hsu⟩ := id hI
  rcases cell_cases hC.1.2 p with ⟨e1, e2⟩ | ⟨c, rfl, hc, e1, e2⟩
  · refine ⟨1, 0, ou, ?_, ?_, fun q => absurd q one_ne0⟩
    · rw [f_L_digit, f_X3_digit, e1, Option.bind_some, sm_inr, Option.bind_some, sm_inr]; rfl
    · simp only [f_X4_digit, jn_p, e2, f_X4_goesWell, if_true, if_neg one_ne0]
  · have hc16 := (isC_lt hc).1
    have hin : inR (nI c) 16 := inR_in (by decide) hc16
    have hcl : (nI c).toNatClampNeg = c := nI_clamp (by omega)
    obtain ⟨m1, m2, m3, m4, m5⟩ := hC.2 c hc16
    have hq : f_X0_givenAt g (nI c) = g c := at_in _ (by decide) hc16
    refine ⟨0, g c, vp_updL ou ((0 : Int32)).toNatClampNeg ((g c : Int32).toInt64), ?_, ?_, fun _ => rfl⟩
    · rw [f_L_digit, f_X3_digit, e1, Option.bind_some, sm_inl, Option.bind_some, sm_inl, hq]
    · simp only [f_X4_digit, jn_p, e2, f_X4_goesWell, if_true, if_neg one_ne0, gd_t hin, hcl]
      rcases m1 with m1 | m1
      · rw [if_pos m1, m5, m1, if_neg zero_ne1]
      · rw [if_neg (show ¬ mba c = 0 by rw [m1]; exact one_ne0), m5, m1, if_pos rfl]
end CALLS2
