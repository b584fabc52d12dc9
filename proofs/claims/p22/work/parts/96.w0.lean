/-! what a board is; each drawing keeps it, or changes nothing -/
def BD (size rc : Int32) (g fs st ln su rr cr : Nat → Int32) : Prop := ∃ (sz : Nat) (rs : Rn) (mba mgi : Nat → Int32), size = nI sz ∧ Cells sz mba mgi g ∧ RT rs rc fs st ln ∧ RRel rs rr cr ∧ VR sz mba rs ∧ ∀ r, r < rs.length → ∃ v : Nat, v ≤ 45 ∧ su r = nI v
def SB (size rc : Int32) (g fs st ln su rr cr : Nat → Int32) (size' rc' : Int32) (g' fs' st' ln' su' rr' cr' : Nat → Int32) : Prop := size' = size ∧ rc' = rc ∧ g' = g ∧ fs' = fs ∧ st' = st ∧ ln' = ln ∧ su' = su ∧ rr' = rr ∧ cr' = cr
theorem SB.rf {size rc : Int32} {g fs st ln su rr cr : Nat → Int32} : SB size rc g fs st ln su rr cr size rc g fs st ln su rr cr := ⟨rfl, rfl, rfl, rfl, rfl, rfl, rfl, rfl, rfl⟩
theorem INV.bd {size rc msz mrn : Int32} {g fs st ln su rr cr mba mgi mfi mle mst msu : Nat → Int32} (h : INV size rc g fs st ln su rr cr msz mrn mba mgi mfi mle mst msu) : BD size rc g fs st ln su rr cr := by
  obtain ⟨sz, rs, h1, -, h3, h4, -, h6, h7, h8⟩ := h
  exact ⟨sz, rs, mba, mgi, h1, h3, h4, h6, h7, fun r hr => (h8 r hr).2⟩
theorem nI_99 {d : Nat} (h : d < 2 ^ 31) : nI d ≠ -99999 := fun q => by
  have h1 := nI_toInt h
  rw [q] at h1
  have : (-99999 : Int32).toInt = -99999 := by decide
  omega
theorem bars_99 : ∀ a b : Fin 17, nI a.1 - nI b.1 ≠ -99999 := by decide +kernel
theorem m1_99 : (-1 : Int32) ≠ -99999 := by decide
section OPS
variable {size rc : Int32} {g fs st ln su rr cr : Nat → Int32}
theorem begin_op (hB : BD size rc g fs st ln su rr cr) {N : Nat} (hN : 50000 < N) (p : Int32) : ∃ (k size' rc' : Int32) (g' fs' st' ln' su' rr' cr' : Nat → Int32), f_L_begin N size rc g fs st ln su rr cr p = some (k, size', rc', g', fs', st', ln', su', rr', cr') ∧ BD size' rc' g' fs' st' ln' su' rr' cr' ∧ (k = -99999 → SB size rc g fs st ln su rr cr size' rc' g' fs' st' ln' su' rr' cr') := by
  have hcase : f_X3_begin N size rc g fs st ln su rr cr p = some (.inr (1, size, rc, g, fs, st, ln, su, rr, cr)) ∨ ∃ j : Nat, 2 ≤ j ∧ j ≤ 4 ∧ p = nI j := by
    rcases i_cases p with h | ⟨j, hj, rfl⟩
    · left
      have h2 : p < 2 := lt_nI_neg h 2 (by decide)
      simp only [f_X3_begin, jn_p, if_pos h2]
    · by_cases q2 : 2 ≤ j
      · by_cases q4 : j ≤ 4
        · exact Or.inr ⟨j, q2, q4, rfl⟩
        · left
          have h2 : ¬ nI j < (2 : Int32) := nI_nlt (a := j) (b := 2) q2 hj
          have h4 : ¬ nI j ≤ (4 : Int32) := nI_ge (a := 4) (b := j) (by omega) hj
          simp only [f_X3_begin, jn_p, if_neg h2, if_neg h4]
      · left
        have h2 : nI j < (2 : Int32) := nI_lt (a := j) (b := 2) (by omega) (by decide)
        simp only [f_X3_begin, jn_p, if_pos h2]
  rcases hcase with e1 | ⟨j, q2, q4, rfl⟩
  · refine ⟨-99999, size, rc, g, fs, st, ln, su, rr, cr, ?_, hB, fun _ => SB.rf⟩
    rw [f_L_begin, e1, Option.bind_some, sm_inr]; rfl
  · have h2 : ¬ nI j < (2 : Int32) := nI_nlt (a := j) (b := 2) q2 (by omega)
    have h4 : nI j ≤ (4 : Int32) := nI_le (a := j) (b := 4) q4 (by decide)
    obtain ⟨g1, e1, f1⟩ := fill_eq (N := N) (n := 16) (by decide) (by omega) g 0
    have hC : Cells j (fun _ => 0) (fun _ => 0) g1 := zero_cells q2 q4 (fun c hc => ⟨rfl, rfl, f1 c hc⟩)
    obtain ⟨rc', fs', st', ln', su', rr', cr', mrn', mfi', mle', mst', msu', d1, d2, d3⟩ := draw_both hC (N := N) (by omega) rc fs st ln su rr cr 0 (fun _ => 0) (fun _ => 0) (fun _ => 0) (fun _ => 0)
    refine ⟨0, nI j, rc', g1, fs', st', ln', su', rr', cr', ?_, d3.bd, fun q => absurd q (by decide)⟩
    simp only [f_L_begin, f_X3_begin, jn_p, if_neg h2, if_pos h4, f_X0_clear, e1, Option.bind_some, d1, sm_inl]
theorem bar_op (hB : BD size rc g fs st ln su rr cr) {N : Nat} (hN : 50000 < N) (p : Int32) : ∃ (k rc' : Int32) (g' fs' st' ln' su' rr' cr' : Nat → Int32), f_L_bar N size rc g fs st ln su rr cr p = some (k, rc', g', fs', st', ln', su', rr', cr') ∧ BD size rc' g' fs' st' ln' su' rr' cr' ∧ (k = -99999 → SB size rc g fs st ln su rr cr size rc' g' fs' st' ln' su' rr' cr') := by
  obtain ⟨sz, rs, mba, mgi, rfl, hC, h1, hR, hV, hsu⟩ := id hB
  rcases cell_cases hC.1.2 p with ⟨e1, -⟩ | ⟨c, rfl, hc, e1, -⟩
  · refine ⟨-99999, rc, g, fs, st, ln, su, rr, cr, ?_, hB, fun _ => SB.rf⟩
    simp only [f_L_bar, f_X3_bar, e1, Option.bind_some, sm_inr, if_true]
  · have hc16 := (isC_lt hc).1
    obtain ⟨b, -, t2, t3⟩ := turn_cells hC hc
    obtain ⟨rc', fs', st', ln', su', rr', cr', mrn', mfi', mle', mst', msu', d1, d2, d3⟩ := draw_both t3 (N := N) (by omega) rc fs st ln su rr cr 0 (fun _ => 0) (fun _ => 0) (fun _ => 0) (fun _ => 0)
    have t4 := turnC_eq hc16 t2 d1
    have t5 : f_X0_isOpen (nI sz) (upd g c (if b = true then 0 else -1)) (nI c) = b01 b := by
      rw [t3.isOpen hc16, opn, hc, upd_eq]
      cases b <;> rfl
    have e3 : f_X3_bar N (nI sz) rc g fs st ln su rr cr (nI c) = some (.inl (b01 (!b), rc', upd g c (if b = true then 0 else -1), fs', st', ln', su', rr', cr')) := by
      simp only [f_X3_bar, e1, Option.bind_some, sm_inl, t4, t5]
      cases b
      · rw [if_pos b01_f]; rfl
      · rw [if_neg (show ¬ b01 true = 0 from one_ne0)]; rfl
    refine ⟨b01 (!b), rc', upd g c (if b = true then 0 else -1), fs', st', ln', su', rr', cr', ?_, d3.bd, fun q => ?_⟩
    · rw [f_L_bar, e3, Option.bind_some, sm_inl]
      cases b
      · exact if_neg one_ne0
      · exact if_pos rfl
    · cases b
      · exact absurd q (by decide)
      · exact absurd q (by decide)
theorem barBoth_op (hB : BD size rc g fs st ln su rr cr) {N : Nat} (hN : 50000 < N) (p : Int32) : ∃ (k rc' : Int32) (g' fs' st' ln' su' rr' cr' : Nat → Int32), f_L_barBoth N size rc g fs st ln su rr cr p = some (k, rc', g', fs', st', ln', su', rr', cr') ∧ BD size rc' g' fs' st' ln' su' rr' cr' ∧ (k = -99999 → SB size rc g fs st ln su rr cr size rc' g' fs' st' ln' su' rr' cr') := by
  obtain ⟨sz, rs, mba, mgi, rfl, hC, h1, hR, hV, hsu⟩ := id hB
  have hs4 := hC.1.2
  have h99 : ∀ P : Nat → Bool, nI sz * nI sz - nI (cnt P 0 16) ≠ -99999 := fun P => by
    have h1 := cnt_le P 16 0
    have h2 : sz * sz ≤ 4 * 4 := Nat.mul_le_mul hs4 hs4
    rw [nI_mul]
    exact bars_99 ⟨sz * sz, by omega⟩ ⟨cnt P 0 16, by omega⟩
  rcases cell_cases hC.1.2 p with ⟨e1, -⟩ | ⟨c, rfl, hc, e1, -⟩
  · refine ⟨-99999, rc, g, fs, st, ln, su, rr, cr, ?_, hB, fun _ => SB.rf⟩
    simp only [f_L_barBoth, f_X3_barBoth, e1, Option.bind_some, sm_inr, if_true]
  · have hc16 := (isC_lt hc).1
    obtain ⟨o, ho, o1, -⟩ := opp_eq hC.1.2 hc
    have ho16 := (isC_lt ho).1
    obtain ⟨b, -, t2, t3⟩ := turn_cells hC hc
    obtain ⟨rc', fs', st', ln', su', rr', cr', mrn', mfi', mle', mst', msu', d1, d2, d3⟩ := draw_both t3 (N := N) (by omega) rc fs st ln su rr cr 0 (fun _ => 0) (fun _ => 0) (fun _ => 0) (fun _ => 0)
    have t4 := turnC_eq hc16 t2 d1
    by_cases hoc : o = c
    · have e3 : nI o = nI c := by rw [hoc]
      have q1 := t3.countOpen (N := N) (by omega)
      refine ⟨nI sz * nI sz - nI (cnt (opn sz (upd mba c (b01 (!b)))) 0 16), rc', upd g c (if b = true then 0 else -1), fs', st', ln', su', rr', cr', ?_, d3.bd, fun q => absurd q (h99 _)⟩
      simp only [f_L_barBoth, f_X3_barBoth, jn_p, e1, Option.bind_some, sm_inl, t4, o1, if_pos e3, f_X0_countBarred, q1]
    · have e3 : ¬ nI o = nI c := fun w => hoc ((nI_inj (by omega) (by omega)).mp w)
      obtain ⟨b2, -, s2, s3⟩ := turn_cells t3 ho
      obtain ⟨rc2, fs2, st2, ln2, su2, rr2, cr2, mrn2, mfi2, mle2, mst2, msu2, v1, v2, v3⟩ := draw_both s3 (N := N) (by omega) rc' fs' st' ln' su' rr' cr' 0 (fun _ => 0) (fun _ => 0) (fun _ => 0) (fun _ => 0)
      have s4 := turnC_eq ho16 s2 v1
      have q1 := s3.countOpen (N := N) (by omega)
      refine ⟨nI sz * nI sz - nI (cnt (opn sz (upd (upd mba c (b01 (!b))) o (b01 (!b2)))) 0 16), rc2, upd (upd g c (if b = true then 0 else -1)) o (if b2 = true then 0 else -1), fs2, st2, ln2, su2, rr2, cr2, ?_, v3.bd, fun q => absurd q (h99 _)⟩
      simp only [f_L_barBoth, f_X3_barBoth, jn_p, e1, Option.bind_some, sm_inl, t4, o1, if_neg e3, s4, f_X0_countBarred, q1]
theorem give_op (hB : BD size rc g fs st ln su rr cr) (p1 p2 : Int32) : ∃ (k : Int32) (g' : Nat → Int32), f_L_give size g p1 p2 = some (k, g') ∧ BD size rc g' fs st ln su rr cr ∧ (k = -99999 → g' = g) := by
  obtain ⟨sz, rs, mba, mgi, rfl, hC, h1, hR, hV, hsu⟩ := id hB
  rcases cell_cases hC.1.2 p1 with ⟨e1, -⟩ | ⟨c, rfl, hc, e1, -⟩
  · refine ⟨-99999, g, ?_, hB, fun _ => rfl⟩
    simp only [f_L_give, f_X3_give, e1, Option.bind_some, sm_inr, if_true]
  · have hc16 := (isC_lt hc).1
    rcases rng_cases 9 (by decide) p2 with ⟨-, r2⟩ | ⟨d, hd9, rfl, -, r2, r3⟩
    · have e3 : f_X3_give (nI sz) g (nI c) p2 = some (.inr (1, g)) := by
        rcases r2 with r2 | ⟨r2, r3⟩
        · simp only [f_X3_give, e1, Option.bind_some, sm_inl, jn_p, if_pos r2]
        · have r3' : ¬ p2 ≤ (9 : Int32) := r3
          simp only [f_X3_give, e1, Option.bind_some, sm_inl, jn_p, if_neg r2, if_neg r3']
      refine ⟨-99999, g, ?_, hB, fun _ => rfl⟩
      rw [f_L_give, e3, Option.bind_some, sm_inr]; rfl
    · have r3' : nI d ≤ (9 : Int32) := r3
      obtain ⟨m1, ⟨d', hd', m2⟩, m3, m4, m5⟩ := hC.2 c hc16
      have ho := hC.isOpen hc16
      rw [opn, hc, Bool.true_and] at ho
      rcases m1 with m1 | m1
      · rw [decide_eq_true m1] at ho
        have hg : f_X0_givenAt g (nI c) = mgi c := by rw [f_X0_givenAt, at_in _ (by decide) hc16, m5, m1, if_neg zero_ne1]
        have hp : f_X0_putGiven g (nI c) (nI d) = upd g c (nI d) := put_in _ _ (by decide) hc16
        have e3 : f_X3_give (nI sz) g (nI c) (nI d) = some (.inl (mgi c, upd g c (nI d))) := by
          simp only [f_X3_give, e1, Option.bind_some, sm_inl, jn_p, if_neg r2, if_pos r3', ho, if_neg (show ¬ b01 true = 0 from one_ne0), hg, hp]
        refine ⟨mgi c, upd g c (nI d), ?_, ⟨sz, rs, mba, upd mgi c (nI d), rfl, ⟨hC.1, fun x hx => ?_⟩, h1, hR, hV, hsu⟩, fun q => ?_⟩
        · rw [f_L_give, e3, Option.bind_some, sm_inl]
        · by_cases hq : x = c
          · rw [hq, upd_eq, upd_eq, m1, if_neg zero_ne1]
            exact ⟨Or.inl rfl, ⟨d, hd9, rfl⟩, fun q => absurd q zero_ne1, fun q => (by rw [hc] at q; cases q), rfl⟩
          · rw [upd_ne _ _ hq, upd_ne _ _ hq]; exact hC.2 x hx
        · rw [m2] at q; exact absurd q (nI_99 (by omega))
      · have m0 : ¬ mba c = 0 := by rw [m1]; exact one_ne0
        rw [decide_eq_false m0] at ho
        have e3 : f_X3_give (nI sz) g (nI c) (nI d) = some (.inr (2, g)) := by
          simp only [f_X3_give, e1, Option.bind_some, sm_inl, jn_p, if_neg r2, if_pos r3', ho, if_pos b01_f]
        refine ⟨-99999, g, ?_, hB, fun _ => rfl⟩
        rw [f_L_give, e3, Option.bind_some, sm_inr]; rfl
theorem setSum_op (hB : BD size rc g fs st ln su rr cr) (p1 p2 : Int32) : ∃ (k : Int32) (su' : Nat → Int32), f_L_setSum rc su p1 p2 = some (k, su') ∧ BD size rc g fs st ln su' rr cr ∧ (k = -99999 → su' = su) := by
  obtain ⟨sz, rs, mba, mgi, rfl, hC, h1, hR, hV, hsu⟩ := id hB
  rcases run_cases h1 h1 p1 with ⟨e1, -⟩ | ⟨r, t, rfl, h8, hr, e1, -⟩
  · refine ⟨-99999, su, ?_, hB, fun _ => rfl⟩
    simp only [f_L_setSum, f_X3_setSum, e1, Option.bind_some, sm_inr, if_true]
  · have hl := (List.getElem?_eq_some_iff.mp hr).1
    rcases rng_cases 45 (by decide) p2 with ⟨-, r2⟩ | ⟨d, hd45, rfl, -, r2, r3⟩
    · have e3 : f_X3_setSum rc su (nI r) p2 = some (.inr (1, su)) := by
        rcases r2 with r2 | ⟨r2, r3⟩
        · simp only [f_X3_setSum, e1, Option.bind_some, sm_inl, jn_p, if_pos r2]
        · have r3' : ¬ p2 ≤ (45 : Int32) := r3
          simp only [f_X3_setSum, e1, Option.bind_some, sm_inl, jn_p, if_neg r2, if_neg r3']
      refine ⟨-99999, su, ?_, hB, fun _ => rfl⟩
      rw [f_L_setSum, e3, Option.bind_some, sm_inr]; rfl
    · have r3' : nI d ≤ (45 : Int32) := r3
      have hs : f_X0_sumAt su (nI r) = su r := at_in _ (by decide) h8
      have hp : f_X0_putSum su (nI r) (nI d) = upd su r (nI d) := put_in _ _ (by decide) h8
      have e3 : f_X3_setSum rc su (nI r) (nI d) = some (.inl (su r, upd su r (nI d))) := by
        simp only [f_X3_setSum, e1, Option.bind_some, sm_inl, jn_p, if_neg r2, if_pos r3', hs, hp]
      refine ⟨su r, upd su r (nI d), ?_, ⟨sz, rs, mba, mgi, rfl, hC, h1, hR, hV, fun x hx => ?_⟩, fun q => ?_⟩
      · rw [f_L_setSum, e3, Option.bind_some, sm_inl]
      · by_cases hq : x = r
        · rw [hq, upd_eq]; exact ⟨d, hd45, rfl⟩
        · rw [upd_ne _ _ hq]; exact hsu x hx
      · obtain ⟨v, hv, ev⟩ := hsu r hl
        rw [ev] at q; exact absurd q (nI_99 (by omega))
theorem press_op (hB : BD size rc g fs st ln su rr cr) {N : Nat} (hN : 50000 < N) : ∃ (k : Int32) (g' su' : Nat → Int32), f_L_press N size rc g fs st ln su = some (k, g', su') ∧ BD size rc g' fs st ln su' rr cr ∧ (k = -99999 → g' = g ∧ su' = su) := by
  obtain ⟨sz, rs, mba, mgi, rfl, hC, h1, hR, hV, hsu⟩ := id hB
  have h8 := h1.2.1
  have c1 := hC.countBlanks (N := N) (by omega)
  have c2 := givesTwice_L h1 hV (N := N) (by omega) g rs.length 0 N (Nat.zero_add _) (by omega)
  have c2' : f_X0_givesTwice N rc g fs st ln = some (b01 (twA rs g rs.length 0)) := c2
  have bad : f_X3_press N (nI sz) rc g fs st ln su = some (.inr (2, g, su)) → ∃ (k : Int32) (g' su' : Nat → Int32), f_L_press N (nI sz) rc g fs st ln su = some (k, g', su') ∧ BD (nI sz) rc g' fs st ln su' rr cr ∧ (k = -99999 → g' = g ∧ su' = su) := fun e3 => by
    refine ⟨-99999, g, su, ?_, hB, fun _ => ⟨rfl, rfl⟩⟩
    rw [f_L_press, e3, Option.bind_some, sm_inr]; rfl
  by_cases z : cnt (blk sz mba mgi) 0 16 = 0
  · have zz : nI (cnt (blk sz mba mgi) 0 16) = 0 := by rw [z]; rfl
    cases ht : twA rs g rs.length 0
    · have hC0 : Cells sz mba (fun c => if c < 0 then 0 else mgi c) g := hC.congr (fun c hc => (if_neg (Nat.not_lt_zero c)).symm)
      obtain ⟨su', s1, -, s2⟩ := sums_L h1 hV (N := N) (by omega) g (fun (su_33 : Nat → Int32) => f_X0_sumAndEmpty_L35 (nI sz) su_33 N 0 g) rs.length 0 N su (Nat.zero_add _) (by omega)
      obtain ⟨g', s3, s4⟩ := empty_L (sz := sz) (mba := mba) su' 16 0 N g (by omega) (by omega) hC0
      have e4 : f_X0_sumAndEmpty N (nI sz) rc g fs st ln su = some (g', su') := by
        rw [f_X0_sumAndEmpty, jn_p]; exact Eq.trans s1 s3
      have e3 : f_X3_press N (nI sz) rc g fs st ln su = some (.inl (rc, g', su')) := by
        rw [f_X3_press, f_X0_isFilled, c1, Option.bind_some, c2', ht, if_pos zz, Option.bind_some, if_neg one_ne0, Option.bind_some, if_pos b01_f, e4, Option.bind_some]
        rfl
      refine ⟨rc, g', su', ?_, ⟨sz, rs, mba, fun _ => 0, rfl, s4, h1, hR, hV, fun r hr => ?_⟩, fun q => ?_⟩
      · rw [f_L_press, e3, Option.bind_some, sm_inl]
      · obtain ⟨t, hrt⟩ : ∃ t, rs[r]? = some t := ⟨_, List.getElem?_eq_getElem hr⟩
        have hv := hV.at hrt
        obtain ⟨w1, w2⟩ := tot_tn (D := g) (a := t.1) (s := t.2.1) t.2.2 0 0 (fun i _ hi => by
          obtain ⟨q1, q2⟩ := hv.2.2.2 i (by omega)
          rw [hC.g_open q2 q1]
          exact (hC.2 _ q2).2.1)
        rw [s2 r t (Nat.zero_le _) hrt]
        exact ⟨_, by omega, w1⟩
      · rw [h1.1] at q; exact absurd q (nI_99 (by omega))
    · refine bad ?_
      rw [f_X3_press, f_X0_isFilled, c1, Option.bind_some, c2', if_pos zz, Option.bind_some, if_neg one_ne0, ht, Option.bind_some, if_neg (show ¬ b01 true = 0 from one_ne0)]
  · refine bad ?_
    have := cnt_le (blk sz mba mgi) 16 0
    rw [f_X3_press, f_X0_isFilled, c1, Option.bind_some, if_neg (show ¬ nI (cnt (blk sz mba mgi) 0 16) = 0 from fun w => z ((nI_inj (b := 0) (by omega) (by omega)).mp w)), Option.bind_some, if_pos rfl]
end OPS
section MEND
variable {sz : Nat} {mba mgi g : Nat → Int32} {rs : Rn} {rc : Int32} {fs st ln rr cr su : Nat → Int32}
theorem Cells.give (hC : Cells sz mba mgi g) {u a : Nat} (hu : u < 16) (ha : a ≤ 9) (ho : opn sz mba u = true) : Cells sz mba (upd mgi u (nI a)) (upd g u (nI a)) := by
  have hm := opn_mba ho
  have hcu : isC sz u = true := by
    simp only [opn, Bool.and_eq_true] at ho; exact ho.1
  refine ⟨hC.1, fun x hx => ?_⟩
  by_cases hq : x = u
  · rw [hq, upd_eq, upd_eq, hm, if_neg zero_ne1]
    exact ⟨Or.inl rfl, ⟨a, ha, rfl⟩, fun q => absurd q zero_ne1, fun q => (by rw [hcu] at q; cases q), rfl⟩
  · rw [upd_ne _ _ hq, upd_ne _ _ hq]; exact hC.2 x hx
theorem blank_open {u : Nat} (h : u ∈ bp (blk sz mba mgi) 16) : opn sz mba u = true := by
  have := ((bp_mem _ 16 u).mp h).2
  simp only [blk, Bool.and_eq_true] at this
  exact this.1
/-- trying for two answers, and mending by them: alike whatever was tried before -/
theorem mend_C (hC : Cells sz mba mgi g) (h1 : RT rs rc fs st ln) (hR : RRel rs rr cr) (hV : VR sz mba rs) {N : Nat} (hN : 50000 < N) :
    ∃ (ret : Int32) (u a : Nat), ((ret = -1 ∧ 4 < (bp (blk sz mba mgi) 16).length) ∨ ret = nI (min 2 (nA sz mba mgi rs su))) ∧ (ret = nI 2 → u < 16 ∧ u ∈ bp (blk sz mba mgi) 16 ∧ 1 ≤ a ∧ a ≤ 9 ∧ 1 ≤ nA sz mba (upd mgi u (nI a)) rs su ∧ nA sz mba (upd mgi u (nI a)) rs su < nA sz mba mgi rs su) ∧
      (∀ (bc : Int32) (bl td fi fa : Nat → Int32), ∃ (bc' : Int32) (bl' td' fi' fa' : Nat → Int32), f_X3_answers N (nI sz) rc g fs st ln su rr cr bc bl td fi fa 2 = some (.inl (ret, bc', bl', td', fi', fa'))) ∧
      ∀ (bc : Int32) (bl td fi fa : Nat → Int32), ∃ (bc' : Int32) (bl' td' fi' fa' : Nat → Int32), f_L_mend N (nI sz) rc g fs st ln su rr cr bc bl td fi fa = some ((if ret = -1 then -99999 else if ret = nI 2 then nI u else -1), (if ret = nI 2 then upd g u (nI a) else g), bc', bl', td', fi', fa') := by
  obtain ⟨ret, u, a, p1, p2, p3⟩ := find_two (su := su) hC h1 hR hV hN
  refine ⟨ret, u, a, p1, p2, fun bc bl td fi fa => ?_, fun bc bl td fi fa => ?_⟩
  · obtain ⟨bc', bl', td', fi', fa', q1, -⟩ := p3 bc bl td fi fa
    refine ⟨bc', bl', td', fi', fa', ?_⟩
    rw [f_X3_answers, jn_p, if_neg (by decide), if_pos (by decide), q1, Option.bind_some]
  · obtain ⟨bc', bl', td', fi', fa', q1, q2⟩ := p3 bc bl td fi fa
    refine ⟨bc', bl', td', fi', fa', ?_⟩
    by_cases hm : ret = -1
    · have h2 : ¬ ret = nI 2 := by rw [hm]; exact fun q => nI_nneg1 (by omega) q.symm
      have e3 : f_X3_mend N (nI sz) rc g fs st ln su rr cr bc bl td fi fa = some (.inr (2, g, bc', bl', td', fi', fa')) := by
        simp only [f_X3_mend, q1, Option.bind_some, if_pos hm]
      rw [f_L_mend, e3, Option.bind_some, sm_inr, if_pos hm, if_neg h2]; rfl
    · have hr : ret = nI (min 2 (nA sz mba mgi rs su)) := by
        rcases p1 with ⟨w, -⟩ | w
        · exact absurd w hm
        · exact w
      by_cases h2 : ret = nI 2
      · obtain ⟨u16, uB, a1, a9, -, -⟩ := p2 h2
        obtain ⟨r1, r2⟩ := q2 h2
        have hle : (2 : Int32) ≤ ret := by rw [h2]; exact nI_le (a := 2) (b := 2) (by omega) (by decide)
        have hu1 : ¬ nI u = -1 := nI_nneg1 (by omega)
        have hput : f_X0_putGiven g (nI u) (f_X2_firstAnswerAt fa' (nI u)) = upd g u (nI a) := by
          rw [f_X0_putGiven, f_X2_firstAnswerAt, at_in _ (by decide) u16, put_in _ _ (by decide) u16, r2]
        have e3 : f_X3_mend N (nI sz) rc g fs st ln su rr cr bc bl td fi fa = some (.inl (nI u, upd g u (nI a), bc', bl', td', fi', fa')) := by
          simp only [f_X3_mend, q1, Option.bind_some, if_neg hm, if_pos hle, r1, if_neg hu1, hput]
        rw [f_L_mend, e3, Option.bind_some, sm_inl, if_neg hm, if_pos h2, if_pos h2]
      · have hle : ¬ (2 : Int32) ≤ ret := by
          rw [hr] at h2 ⊢
          exact nI_ge (a := min 2 (nA sz mba mgi rs su)) (b := 2) (by
            rcases Nat.lt_or_ge (min 2 (nA sz mba mgi rs su)) 2 with w | w
            · exact w
            · exact absurd (congrArg nI (show min 2 (nA sz mba mgi rs su) = 2 by omega)) h2) (by decide)
        have e3 : f_X3_mend N (nI sz) rc g fs st ln su rr cr bc bl td fi fa = some (.inl (-1, g, bc', bl', td', fi', fa')) := by
          simp only [f_X3_mend, q1, Option.bind_some, if_neg hm, if_neg hle]
        rw [f_L_mend, e3, Option.bind_some, sm_inl, if_neg hm, if_neg h2, if_neg h2]
end MEND
